/-! the model cuts sheets and prints -/
theorem Enc.laid {n p k w : Nat} {F : Nat → c_Sh} {S : c_St} {r r2 : List Int32} (E : Enc F S r) (t : Tok n p S) (so : s_ok (g_sh F k)) (h0 : 0 < c_piled S) (hw : w < 4) (hl : r2.length = 611) (ho : ∀ i, i < 5 ∨ (8 ≤ i ∧ i < 83) ∨ 179 ≤ i → r2.getD i 0 = r.getD i 0) (h5 : r2.getD 5 0 = nI (c_piled S - 1)) (h6 : r2.getD 6 0 = nI 1) (h7 : r2.getD 7 0 = nI 24)
    (v1 : ∀ q, q < 24 → r2.getD (83 + q) 0 = nI ((g_sh F k).1.getD (g_cellAt w q) 0)) (v2 : ∀ q, q < 24 → r2.getD (131 + (g_sh F k).1.getD (g_cellAt w q) 0) 0 = nI ((g_sh F k).2.1.getD ((g_sh F k).1.getD (g_cellAt w q) 0) 0)) (v3 : ∀ q, q < 24 → r2.getD (107 + q) 0 = (g_sh F k).2.2.getD q 0) (v4 : ∀ q, q < 24 → r2.getD (155 + q) 0 = nI 0) : Enc F (c_laid F S k w) r2 := by
  obtain ⟨_, eb, ⟨n1, n2, n3, n4, n5⟩, _, el⟩ := E.to
  have lp := t.1.2.2.2.2.2.2.2.2.2.2.2.1
  refine Enc.of hl (eb.same fun i hi => ho i (by omega)) ⟨(ho _ (by omega)).trans n1, h5, (ho _ (by omega)).trans n3, (ho _ (by omega)).trans n4, (ho _ (by omega)).trans n5⟩ ⟨h6, h7, fun q hq => ?_, fun s hs => ?_⟩ (fun j hj s hs q hq => ?_)
  · have hq2 : q < 24 := hq
    show _ = nI ((g_lay (g_sh F k).1 w 24 (c_order S)).getD (0 + q) 0)
    rw [Nat.zero_add, g_lay_get' hq2]; exact v1 q hq2
  · have es : k = s := Option.some.inj hs
    subst es
    refine ⟨v3, fun c hc => ?_, fun q hq => ?_⟩
    · obtain ⟨j, hj, e⟩ := so.2.2 c hc
      obtain ⟨q, hq, e2⟩ := List.any_eq_true.mp (g_cellAt_onto w hw j hj)
      rw [List.mem_range] at hq
      have e3 : g_cellAt w q = j := of_decide_eq_true e2
      have z := v2 q hq
      rw [e3, e] at z
      exact z
    · show r2.getD (155 + (g_lay (g_sh F k).1 w 24 (c_order S)).getD q 0) 0 = nI 0
      rw [g_lay_get' hq]
      exact v4 _ (by
        by_cases z : g_cellAt w q < (g_sh F k).1.length
        · exact g_getD_lt so.2.1 z
        · rw [List.getD_eq_getElem?_getD, List.getElem?_eq_none (by omega)]; decide)
  · have hj2 : j < c_piled S - 1 := hj
    have hs2 : ((c_pile S).set (c_piled S - 1) none).getD j none = some s := hs
    rw [List.getD_eq_getElem?_getD, List.getElem?_set_ne (by omega), ← List.getD_eq_getElem?_getD] at hs2
    have z := el j (by omega) s hs2 q hq
    exact ⟨(ho _ (by omega)).trans z.1, (ho _ (by omega)).trans z.2.1, (ho _ (by omega)).trans z.2.2⟩
theorem e_cutSheet {d : Nat} {n p : Nat} {F : Nat → c_Sh} {W : c_W} {x : Int32} {M : c_M} {h : m_Hp} (H : Hmo h M) (ok : Okm M) (R : Rl F W M) (t : Tok n p (w_now W)) (G : Gsh n F) : ∃ r h', m_Call m_P (d + 3) 121 [.ref 61, .int x] (h) r h' ∧ (Opm F (w_res W (b_cut F (w_now W) x).2) h (b_cut F (w_now W) x).1) r h' := by
  refine m_call_ex (tab := tX6_cutSheet) (nL := 5) rfl rfl ?_
  have lp := t.1.2.2.2.2.2.2.2.2.2.2.2.1
  refine m_E.run 3 (pc1 := 3) (ls1 := [some _, some _, none, none, none]) (st1 := [_, _, _]) rfl ?_
  refine m_E.cv rfl rfl (e_within) ?_
  rw [show w_in (nI 0) (nI 3) x = g_in 4 x from w_in_k (n := 4) (by decide) (by decide)]
  cases ex : g_in 4 x
  · skip
    have e : b_cut F (w_now W) x = (-2, none) := by rw [b_cut, if_neg (by rw [ex]; simp)]
    rw [e]
    refine m_E.iff (rfl) rfl ?_
    refine m_E.run 1 (pc1 := 11) (ls1 := [some _, some _, none, none, none]) (st1 := [_]) rfl ?_
    exact m_E.iret rfl (Opm.same H ok R)
  · skip
    obtain ⟨w, hw, rfl⟩ := g_in_of ex (by decide)
    refine m_E.ift (rfl) rfl ?_
    refine m_E.run 1 (pc1 := 13) (ls1 := [some _, some _, none, none, none]) (st1 := [_]) rfl ?_
    refine m_E.gf H.o (by decide) rfl rfl ?_
    refine m_E.run 1 (pc1 := 18) (ls1 := [some _, some _, none, none, none]) (st1 := [_, _]) rfl ?_
    refine m_E.rs H ok.1 rfl (by omega) (R.1.has) rfl ?_
    have bad : (¬ (c_fr (w_now W) = none ∧ 0 < c_piled (w_now W))) → m_E (m_Call m_P (d + 2)) tX6_cutSheet 32 [some (.ref 61), some (.int (nI w)), none, none, none] [] h (Opm F (w_res W (b_cut F (w_now W) (nI w)).2) h (b_cut F (w_now W) (nI w)).1) := by
      intro hb
      have e : b_cut F (w_now W) (nI w) = (-4, none) := by rw [b_cut, if_pos ex, if_neg hb]
      rw [e]
      refine m_E.run 1 (pc1 := 34) (ls1 := [some _, some _, none, none, none]) (st1 := [_]) rfl ?_
      exact m_E.iret rfl (Opm.same H ok R)
    refine m_E.run 1 (pc1 := 20) (ls1 := [some _, some _, none, none, none]) (st1 := [_, _]) rfl ?_
    by_cases ef : c_fr (w_now W) = none
    · skip
      rw [if_pos ef]
      refine m_E.icf (by decide) rfl ?_
      refine m_E.run 1 (pc1 := 24) (ls1 := [some _, some _, none, none, none]) (st1 := [_]) rfl ?_
      refine m_E.gf H.o (by decide) rfl rfl ?_
      refine m_E.run 1 (pc1 := 28) (ls1 := [some _, some _, none, none, none]) (st1 := [_, _]) rfl ?_
      refine m_E.rs H ok.1 rfl (by omega) (R.1.pil) rfl ?_
      by_cases e0 : c_piled (w_now W) = 0
      · skip
        refine m_E.iff (by rw [e0]; decide) rfl ?_
        exact bad (fun z => by omega)
      · skip
        refine m_E.ift (by rw [m_beq0 (by omega), decide_eq_false e0]; rfl) rfl ?_
        obtain ⟨j, hj⟩ : ∃ j, c_piled (w_now W) = j + 1 := ⟨c_piled (w_now W) - 1, by omega⟩
        obtain ⟨i0, hi0, et⟩ := t.2.2.1.2.1 j (by omega)
        have g := G.at (k := 69 + 4 * i0) ⟨i0, hi0, rfl⟩
        have e : b_cut F (w_now W) (nI w) = (nI (c_piled (w_now W) - 1), some (c_laid F (w_now W) (69 + 4 * i0) w)) := by rw [b_cut, if_pos ex, if_pos ⟨ef, by omega⟩, c_top, show c_piled (w_now W) - 1 = j by omega, et, m_cl (by omega)]
        rw [e]
        refine m_E.run 1 (pc1 := 36) (ls1 := [some _, some _, none, none, none]) (st1 := [_]) rfl ?_
        obtain ⟨h1, M1, p1, H1, ok1, R1, c1⟩ := e_rec2 (d := d) H ok R
        have E1 : Enc F (w_now W) (d_state M1) := R1.1
        refine m_E.on H.o (by decide) rfl rfl rfl (p1) ?_
        have PL : ∀ c, c < 24 → _ := fun c hc => E1.pile (show j < c_piled (w_now W) by omega) et hc
        generalize hs : g_sh F (69 + 4 * i0) = s at g PL
        have cl : ∀ c, c < 24 → s.1.getD c 0 < 24 := fun c hc => g_getD_lt g.1.2.1 (by rw [g.2.1]; exact hc)
        refine m_E.run 2 (pc1 := 41) (ls1 := [some _, some _, some _, none, none]) (st1 := []) rfl ?_
        refine m_E.lp (fun i ls hh => ∃ v3, ∃ v4, ∃ r, ls = [some (.ref 61), some (.int (nI w)), some (.int (nI i)), v3, v4] ∧ (Hmo hh (d_set_state M1 r) ∧ r.length = 611 ∧ (∀ k, k < 83 ∨ 179 ≤ k → r.getD k 0 = (d_state M1).getD k 0) ∧ (∀ q, q < i → r.getD (83 + q) 0 = nI (s.1.getD (g_cellAt w q) 0)) ∧ (∀ q, q < i → r.getD (131 + s.1.getD (g_cellAt w q) 0) 0 = nI (s.2.1.getD (s.1.getD (g_cellAt w q) 0) 0)) ∧ (∀ q, q < i → r.getD (107 + q) 0 = s.2.2.getD q 0) ∧ (∀ q, q < i → r.getD (155 + q) 0 = nI 0) ∧ Chg 61 69 h hh)) 24 ?_ ?_ ?_
        · skip
          rintro i _ hh hi ⟨v3, v4, r, rfl, hI⟩ K
          obtain ⟨Hi, li, oi, w1, w2, w3, w4, ci⟩ := hI
          have lc := g_cellAt_lt w hw i hi
          have lv := cl _ lc
          have r5 : r.getD 5 0 = nI (j + 1) := (oi 5 (by omega)).trans (E1.pil.trans (by rw [hj]))
          refine m_E.run 2 (pc1 := 44) (ls1 := [some _, some _, some _, _, _]) (st1 := [_, _]) rfl ?_
          refine m_E.icf ((m_leI (by omega) (by omega)).trans (decide_eq_false (by omega))) rfl ?_
          refine m_E.run 2 (pc1 := 49) (ls1 := [some _, some _, some _, _, _]) (st1 := [_, _]) rfl ?_
          refine m_E.cv rfl rfl (e_cellAt rfl rfl hw hi) ?_
          refine m_E.run 2 (pc1 := 54) (ls1 := [some _, some _, some _, some _, _]) (st1 := [_]) rfl ?_
          refine m_E.gf Hi.o (by decide) rfl rfl ?_
          refine m_E.run 1 (pc1 := 58) (ls1 := [some _, some _, some _, some _, _]) (st1 := [_, _]) rfl ?_
          refine m_E.ov Hi.o (by decide) rfl rfl rfl (e_top Hi li r5) ?_
          refine m_E.run 2 (pc1 := 63) (ls1 := [some _, some _, some _, some _, _]) (st1 := [_, _]) rfl ?_
          dsimp only
          refine m_E.rs Hi li (nI_add _ _) (by omega) ((oi _ (by omega)).trans (PL _ lc).1) rfl ?_
          refine m_E.run 2 (pc1 := 67) (ls1 := [some _, some _, some _, some _, some _]) (st1 := [_]) rfl ?_
          refine m_E.gf Hi.o (by decide) rfl rfl ?_
          refine m_E.run 4 (pc1 := 76) (ls1 := [some _, some _, some _, some _, some _]) (st1 := [_, _, _]) rfl ?_
          dsimp only
          refine m_E.ws Hi li (nI_add _ _) (by omega) rfl (fun h3 H3 c3 => ?_)
          have l3 : (r.set (83 + i) (nI (s.1.getD (g_cellAt w i) 0))).length = 611 := (List.length_set ..).trans li
          have o3 : ∀ k, k ≠ 83 + i → (r.set (83 + i) (nI (s.1.getD (g_cellAt w i) 0))).getD k 0 = r.getD k 0 := fun k hk => g_so hk
          have s3 : (r.set (83 + i) (nI (s.1.getD (g_cellAt w i) 0))).getD (83 + i) 0 = nI (s.1.getD (g_cellAt w i) 0) := (g_sd (by omega)).trans (if_pos rfl)
          change Hmo h3 (d_set_state M1 (r.set (83 + i) (nI (s.1.getD (g_cellAt w i) 0)))) at H3
          generalize r.set (83 + i) (nI (s.1.getD (g_cellAt w i) 0)) = ra at H3 l3 o3 s3
          refine m_E.run 1 (pc1 := 78) (ls1 := [some _, some _, some _, some _, some _]) (st1 := [_]) rfl ?_
          refine m_E.gf H3.o (by decide) rfl rfl ?_
          refine m_E.run 4 (pc1 := 88) (ls1 := [some _, some _, some _, some _, some _]) (st1 := [_, _, _]) rfl ?_
          dsimp only
          refine m_E.gf H3.o (by decide) rfl rfl ?_
          refine m_E.run 1 (pc1 := 92) (ls1 := [some _, some _, some _, some _, some _]) (st1 := [_, _, _, _]) rfl ?_
          refine m_E.ov H3.o (by decide) rfl rfl rfl (e_top H3 l3 ((o3 5 (by omega)).trans r5)) ?_
          refine m_E.run 4 (pc1 := 100) (ls1 := [some _, some _, some _, some _, some _]) (st1 := [_, _, _, _]) rfl ?_
          dsimp only
          rw [nI_add]
          rw [nI_add]
          refine m_E.rs H3 l3 rfl (by omega) ((o3 _ (by omega)).trans ((oi _ (by omega)).trans (show (d_state M1).getD (179 + 72 * j + 48 + g_cellAt w i) 0 = nI (s.2.1.getD (s.1.getD (g_cellAt w i) 0) 0) by rw [show 179 + 72 * j + 48 + g_cellAt w i = 227 + 72 * j + g_cellAt w i by omega]; exact (PL _ lc).2.2))) rfl ?_
          refine m_E.ws H3 l3 (nI_add _ _) (by omega) rfl (fun h4 H4 c4 => ?_)
          have l4 : (ra.set (131 + s.1.getD (g_cellAt w i) 0) (nI (s.2.1.getD (s.1.getD (g_cellAt w i) 0) 0))).length = 611 := (List.length_set ..).trans l3
          have o4 : ∀ k, k ≠ 131 + s.1.getD (g_cellAt w i) 0 → (ra.set (131 + s.1.getD (g_cellAt w i) 0) (nI (s.2.1.getD (s.1.getD (g_cellAt w i) 0) 0))).getD k 0 = ra.getD k 0 := fun k hk => g_so hk
          have s4 : (ra.set (131 + s.1.getD (g_cellAt w i) 0) (nI (s.2.1.getD (s.1.getD (g_cellAt w i) 0) 0))).getD (131 + s.1.getD (g_cellAt w i) 0) 0 = nI (s.2.1.getD (s.1.getD (g_cellAt w i) 0) 0) := (g_sd (by omega)).trans (if_pos rfl)
          change Hmo h4 (d_set_state M1 (ra.set (131 + s.1.getD (g_cellAt w i) 0) (nI (s.2.1.getD (s.1.getD (g_cellAt w i) 0) 0)))) at H4
          generalize ra.set (131 + s.1.getD (g_cellAt w i) 0) (nI (s.2.1.getD (s.1.getD (g_cellAt w i) 0) 0)) = rb at H4 l4 o4 s4
          refine m_E.run 1 (pc1 := 103) (ls1 := [some _, some _, some _, some _, some _]) (st1 := [_]) rfl ?_
          refine m_E.gf H4.o (by decide) rfl rfl ?_
          refine m_E.run 4 (pc1 := 111) (ls1 := [some _, some _, some _, some _, some _]) (st1 := [_, _, _]) rfl ?_
          dsimp only
          refine m_E.gf H4.o (by decide) rfl rfl ?_
          refine m_E.run 1 (pc1 := 115) (ls1 := [some _, some _, some _, some _, some _]) (st1 := [_, _, _, _]) rfl ?_
          rw [nI_add]
          refine m_E.ov H4.o (by decide) rfl rfl rfl (e_top H4 l4 ((o4 5 (by omega)).trans ((o3 5 (by omega)).trans r5))) ?_
          refine m_E.run 4 (pc1 := 123) (ls1 := [some _, some _, some _, some _, some _]) (st1 := [_, _, _, _]) rfl ?_
          dsimp only
          rw [nI_add]
          refine m_E.rs H4 l4 (nI_add _ _) (by omega) ((o4 _ (by omega)).trans ((o3 _ (by omega)).trans ((oi _ (by omega)).trans (show (d_state M1).getD (179 + 72 * j + 24 + i) 0 = s.2.2.getD i 0 by rw [show 179 + 72 * j + 24 + i = 203 + 72 * j + i by omega]; exact (PL _ hi).2.1)))) rfl ?_
          refine m_E.ws H4 l4 rfl (by omega) rfl (fun h5 H5 c5 => ?_)
          have l5 : (rb.set (107 + i) (s.2.2.getD i 0)).length = 611 := (List.length_set ..).trans l4
          have o5 : ∀ k, k ≠ 107 + i → (rb.set (107 + i) (s.2.2.getD i 0)).getD k 0 = rb.getD k 0 := fun k hk => g_so hk
          have s5 : (rb.set (107 + i) (s.2.2.getD i 0)).getD (107 + i) 0 = s.2.2.getD i 0 := (g_sd (by omega)).trans (if_pos rfl)
          change Hmo h5 (d_set_state M1 (rb.set (107 + i) (s.2.2.getD i 0))) at H5
          generalize rb.set (107 + i) (s.2.2.getD i 0) = rc at H5 l5 o5 s5
          refine m_E.run 1 (pc1 := 126) (ls1 := [some _, some _, some _, some _, some _]) (st1 := [_]) rfl ?_
          refine m_E.gf H5.o (by decide) rfl rfl ?_
          refine m_E.run 4 (pc1 := 135) (ls1 := [some _, some _, some _, some _, some _]) (st1 := [_, _, _]) rfl ?_
          dsimp only
          refine m_E.ws H5 l5 (nI_add _ _) (by omega) rfl (fun h6 H6 c6 => ?_)
          have l6 : (rc.set (155 + i) (nI 0)).length = 611 := (List.length_set ..).trans l5
          have o6 : ∀ k, k ≠ 155 + i → (rc.set (155 + i) (nI 0)).getD k 0 = rc.getD k 0 := fun k hk => g_so hk
          have s6 : (rc.set (155 + i) (nI 0)).getD (155 + i) 0 = nI 0 := (g_sd (by omega)).trans (if_pos rfl)
          change Hmo h6 (d_set_state M1 (rc.set (155 + i) (nI 0))) at H6
          generalize rc.set (155 + i) (nI 0) = rd at H6 l6 o6 s6
          have oo : ∀ k, k ≠ 83 + i → k ≠ 131 + s.1.getD (g_cellAt w i) 0 → k ≠ 107 + i → k ≠ 155 + i → rd.getD k 0 = r.getD k 0 := fun k a1 a2 a3 a4 => by rw [o6 k a4, o5 k a3, o4 k a2, o3 k a1]
          refine m_E.run 2 (pc1 := 41) (ls1 := [some _, some _, some _, some _, some _]) (st1 := []) rfl ?_
          rw [nI_add]
          refine K _ _ ⟨_, _, rd, rfl, H6, l6, fun k hk => (oo k (by omega) (by omega) (by omega) (by omega)).trans (oi k hk), fun q hq => ?_, fun q hq => ?_, fun q hq => ?_, fun q hq => ?_, ci.tr (c3.tr (c4.tr (c5.tr c6)))⟩
          · by_cases eq : q = i
            · rw [eq, o6 _ (by omega), o5 _ (by omega), o4 _ (by omega)]; exact s3
            · exact (oo _ (by omega) (by omega) (by omega) (by omega)).trans (w1 q (by omega))
          · have lq := cl _ (g_cellAt_lt w hw q (by omega))
            by_cases eq : s.1.getD (g_cellAt w q) 0 = s.1.getD (g_cellAt w i) 0
            · rw [eq, o6 _ (by omega), o5 _ (by omega)]; exact s4
            · exact (oo _ (by omega) (by omega) (by omega) (by omega)).trans (w2 q (by have : q ≠ i := fun z => eq (by rw [z]); omega))
          · by_cases eq : q = i
            · rw [eq, o6 _ (by omega)]; exact s5
            · exact (oo _ (by omega) (by omega) (by omega) (by omega)).trans (w3 q (by omega))
          · by_cases eq : q = i
            · rw [eq]; exact s6
            · exact (oo _ (by omega) (by omega) (by omega) (by omega)).trans (w4 q (by omega))
        · skip
          exact ⟨none, none, _, rfl, H1, ok1.1, fun _ _ => rfl, fun q hq => absurd hq (Nat.not_lt_zero q), fun q hq => absurd hq (Nat.not_lt_zero q), fun q hq => absurd hq (Nat.not_lt_zero q), fun q hq => absurd hq (Nat.not_lt_zero q), c1⟩
        · skip
          rintro _ hh ⟨v3, v4, r, rfl, hI⟩
          obtain ⟨Hi, li, oi, w1, w2, w3, w4, ci⟩ := hI
          have r5 : r.getD 5 0 = nI (j + 1) := (oi 5 (by omega)).trans (E1.pil.trans (by rw [hj]))
          refine m_E.run 2 (pc1 := 44) (ls1 := [some _, some _, some _, _, _]) (st1 := [_, _]) rfl ?_
          refine m_E.ict (by decide) rfl ?_
          refine m_E.run 1 (pc1 := 143) (ls1 := [some _, some _, some _, _, _]) (st1 := [_]) rfl ?_
          refine m_E.gf Hi.o (by decide) rfl rfl ?_
          refine m_E.run 2 (pc1 := 149) (ls1 := [some _, some _, some _, _, _]) (st1 := [_, _, _]) rfl ?_
          refine m_E.ws Hi li rfl (by omega) rfl (fun h3 H3 c3 => ?_)
          have l3 : (r.set 6 (nI 1)).length = 611 := (List.length_set ..).trans li
          refine m_E.run 1 (pc1 := 151) (ls1 := [some _, some _, some _, _, _]) (st1 := [_]) rfl ?_
          refine m_E.gf H3.o (by decide) rfl rfl ?_
          refine m_E.run 2 (pc1 := 158) (ls1 := [some _, some _, some _, _, _]) (st1 := [_, _, _]) rfl ?_
          refine m_E.ws H3 l3 rfl (by omega) rfl (fun h4 H4 c4 => ?_)
          have l4 : ((r.set 6 (nI 1)).set 7 (nI 24)).length = 611 := (List.length_set ..).trans l3
          have o4 : ∀ k, k ≠ 6 → k ≠ 7 → ((r.set 6 (nI 1)).set 7 (nI 24)).getD k 0 = r.getD k 0 := fun k a1 a2 => by rw [g_so a2, g_so a1]
          refine m_E.run 1 (pc1 := 160) (ls1 := [some _, some _, some _, _, _]) (st1 := [_]) rfl ?_
          refine m_E.gf H4.o (by decide) rfl rfl ?_
          refine m_E.run 2 (pc1 := 165) (ls1 := [some _, some _, some _, _, _]) (st1 := [_, _, _, _]) rfl ?_
          refine m_E.rs H4 l4 rfl (by omega) ((o4 5 (by omega) (by omega)).trans r5) rfl ?_
          refine m_E.run 2 (pc1 := 168) (ls1 := [some _, some _, some _, _, _]) (st1 := [_, _, _]) rfl ?_
          dsimp only
          rw [pk_sub (by omega), Nat.add_sub_cancel]
          refine m_E.ws H4 l4 rfl (by omega) rfl (fun h5 H5 c5 => ?_)
          have l5 : (((r.set 6 (nI 1)).set 7 (nI 24)).set 5 (nI j)).length = 611 := (List.length_set ..).trans l4
          have s5 : (((r.set 6 (nI 1)).set 7 (nI 24)).set 5 (nI j)).getD 5 0 = nI j := (g_sd (by omega)).trans (if_pos rfl)
          have oo : ∀ k, k ≠ 6 → k ≠ 7 → k ≠ 5 → (((r.set 6 (nI 1)).set 7 (nI 24)).set 5 (nI j)).getD k 0 = r.getD k 0 := fun k a1 a2 a3 => by rw [g_so a3]; exact o4 k a1 a2
          refine m_E.run 1 (pc1 := 170) (ls1 := [some _, some _, some _, _, _]) (st1 := [_]) rfl ?_
          refine m_E.gf H5.o (by decide) rfl rfl ?_
          refine m_E.run 1 (pc1 := 174) (ls1 := [some _, some _, some _, _, _]) (st1 := [_, _]) rfl ?_
          refine m_E.rs H5 l5 rfl (by omega) (s5) rfl ?_
          subst hs
          have E2 : Enc F (c_laid F (w_now W) (69 + 4 * i0) w) (((r.set 6 (nI 1)).set 7 (nI 24)).set 5 (nI j)) := Enc.laid (p := p) (n := n) E1 t g.1 (by omega) hw l5 (fun k hk => (oo k (by omega) (by omega) (by omega)).trans (oi k (by omega))) (by rw [s5]; congr 1; omega) (by rw [g_so (by omega), g_so (by omega), g_sd (by omega), if_pos rfl]) (by rw [g_so (by omega), g_sd (by omega), if_pos rfl]) (fun q hq => (oo _ (by omega) (by omega) (by omega)).trans (w1 q hq)) (fun q hq => (oo _ (by omega) (by omega) (by omega)).trans (w2 q hq)) (fun q hq => (oo _ (by omega) (by omega) (by omega)).trans (w3 q hq)) (fun q hq => (oo _ (by omega) (by omega) (by omega)).trans (w4 q hq))
          exact m_E.iret rfl ⟨by rw [show c_piled (w_now W) - 1 = j by omega], _, H5, ok1.state l5, R1.setS E2, ci.tr (c3.tr (c4.tr c5))⟩
    · skip
      rw [if_neg ef]
      refine m_E.ict (by decide) rfl ?_
      exact bad (fun z => ef z.1)
