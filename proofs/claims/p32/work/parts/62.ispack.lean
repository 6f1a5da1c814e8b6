/-! whether the pack is as the law has it -/
def y_num : Prop := g_num ∧ ∀ (F : Nat → c_Sh) (S : c_St), Op.cmpValue (FP.fcmp (r_chances F S) (r_chances F S)) .l = nI 0
theorem y_nn (x : Int32) : (!(x == x)) = false := by simp
theorem r_place_at {S : c_St} {c i : Nat} (hi : i < c_lf S) (h : (c_order S).getD (c_dealt S + i) 0 = c) (hn : ∀ j, j < i → (c_order S).getD (c_dealt S + j) 0 ≠ c) : r_place S c = nI i := by
  obtain ⟨a, b, e, f⟩ := g_ix_ok (c_order S) c (c_lf S) (c_dealt S)
  have e2 : g_ix (c_order S) c (c_lf S) (c_dealt S) = c_dealt S + i := by
    rcases Nat.lt_trichotomy (g_ix (c_order S) c (c_lf S) (c_dealt S)) (c_dealt S + i) with z | z | z
    · have q := hn (g_ix (c_order S) c (c_lf S) (c_dealt S) - c_dealt S) (by omega)
      rw [show c_dealt S + (g_ix (c_order S) c (c_lf S) (c_dealt S) - c_dealt S) = g_ix (c_order S) c (c_lf S) (c_dealt S) by omega] at q
      exact absurd (e (by omega)) q
    · exact z
    · exact absurd h (f _ (by omega) z)
  rw [r_place, e2, if_pos (by omega), Nat.add_sub_cancel_left]
theorem r_place_no {S : c_St} {c : Nat} (hn : ∀ j, j < c_lf S → (c_order S).getD (c_dealt S + j) 0 ≠ c) : r_place S c = -5 := by
  obtain ⟨a, b, e, f⟩ := g_ix_ok (c_order S) c (c_lf S) (c_dealt S)
  rw [r_place, if_neg]
  intro z
  have q := hn (g_ix (c_order S) c (c_lf S) (c_dealt S) - c_dealt S) (by omega)
  rw [show c_dealt S + (g_ix (c_order S) c (c_lf S) (c_dealt S) - c_dealt S) = g_ix (c_order S) c (c_lf S) (c_dealt S) by omega] at q
  exact q (e z)
theorem y_chn {F : Nat → c_Sh} {S : c_St} (hf : c_fr S ≠ none) (h : c_dealt S + c_lf S = 24) : r_chances F S = g_sum (q_can F S) (c_lf S) := by
  cases e : c_fr S with
  | none => exact absurd e hf
  | some k =>
    rw [r_chances, e]
    dsimp only
    rw [← c_shf_some (F := F) e, show 24 - c_dealt S = c_lf S by omega]
    rw [show q_can F S = g_can (c_order S) (c_shf F S).2.1 (c_dealt S) (c_lf S) from by funext i; rw [q_can, show 24 - c_dealt S = c_lf S by omega]]
theorem q_can_pos {n : List Nat} {p i : Nat} {F : Nat → c_Sh} {S : c_St} (t : Tok n p S) (hi : i < c_lf S) : 1 ≤ q_can F S i ∧ q_can F S i ≤ 24 := by
  obtain ⟨hf, h2⟩ := lf_lt t hi
  have l := c_lf_eq t hf
  exact ⟨g_can_pos (by omega), Nat.le_trans g_can_lt (Nat.sub_le _ _)⟩
/-- where a card was found upon the way -/
def Ypl (S : c_St) (card i : Nat) (v : Int32) : Prop := ((∀ j, j < i → (c_order S).getD (c_dealt S + j) 0 ≠ card) ∧ v = -5) ∨ ∃ j, j < i ∧ (c_order S).getD (c_dealt S + j) 0 = card ∧ v = nI j
theorem Ypl.end {n : List Nat} {p card : Nat} {S : c_St} {v : Int32} (t : Tok n p S) (h : Ypl S card (c_lf S) v) : v = r_place S card := by
  rcases h with ⟨h, rfl⟩ | ⟨j, hj, e, rfl⟩
  · exact (r_place_no h).symm
  · refine (r_place_at hj e (fun q hq z => ?_)).symm
    obtain ⟨hf, h2⟩ := lf_lt t hj
    have := g_perm_inj (t.2.2.2.2.1 hf) t.ord (show c_dealt S + q < 24 by omega) h2 (z.trans e.symm)
    omega
theorem y_pack {F : Nat → c_Sh} {S : c_St} {i w : Nat} (hi : i < c_lf S) (hw : w < 5) : r_pack F S (nI i) (nI w) = r_pk F S i w := by
  have ll : c_lf S ≤ 24 := g_left_le _ _
  rw [r_pack, if_pos (g_in_yes hi (by omega)), if_pos (g_in_yes hw (by decide)), m_cl (by omega), m_cl (by omega)]
theorem g_in_no {n j : Nat} (hj : n ≤ j) (hj2 : j < 2 ^ 31) : g_in n (nI j) = false := by
  rw [g_in, decide_eq_true ((nI_leI (by omega) hj2).mpr hj), Bool.not_true, Bool.and_false]
theorem y_pack5 {F : Nat → c_Sh} {S : c_St} {i : Nat} (hi : i < c_lf S) : r_pack F S (nI i) (nI 5) = -2 := by
  have ll : c_lf S ≤ 24 := g_left_le _ _
  rw [r_pack, if_pos (g_in_yes hi (by omega)), if_neg (by rw [g_in_no (by decide) (by decide)]; decide)]
theorem y_packO {F : Nat → c_Sh} {S : c_St} : r_pack F S (nI (c_lf S)) (nI 0) = -1 := by
  have ll : c_lf S ≤ 24 := g_left_le _ _
  rw [r_pack, if_neg (by rw [g_in_no (Nat.le_refl _) (by omega)]; decide)]
theorem y_card_2 {F : Nat → c_Sh} {S : c_St} {c : Nat} (hc : c < 24) : r_cardOf F S (nI c) (nI 2) = r_place S c := by
  rw [r_cardOf, if_pos (g_in_yes hc (by decide)), if_neg (by decide), if_neg (by decide), if_pos rfl, m_cl (by omega)]
theorem y_card_3 {F : Nat → c_Sh} {S : c_St} {c : Nat} (hc : c < 24) : r_cardOf F S (nI c) (nI 3) = r_marks F S c := by
  rw [r_cardOf, if_pos (g_in_yes hc (by decide)), if_neg (by decide), if_neg (by decide), if_neg (by decide), if_pos rfl, m_cl (by omega)]
set_option maxRecDepth 100000 in
theorem y_isPack {d : Nat} {n : List Nat} {p : Nat} {F : Nat → c_Sh} {W : c_W} {x : Int32} {R : y_R} {h : m_Hp} (hn : y_num) (HC : Hcl h n F W) (okw : Okw n p W) (H : Hrw h R) (Y : Ry F (w_now W) R) : m_Call m_P (d + 7) 90 [.ref 4, .int x, .ref 61, .ref 66, .ref 67] (h) (some (.int (nI 1))) (h) := by
  refine m_call_of (tab := tL_isPack) (nL := 12) rfl rfl ?_
  have t := okw.1
  have G := HC.gsh
  obtain ⟨ok, yq, yb, yp, yk⟩ := id Y
  have ll : c_lf (w_now W) ≤ 24 := g_left_le _ _
  refine m_E.run 6 (pc1 := 9) (ls1 := [some _, some _, some _, some _, some _, some _, some _, some _, none, none, none, none]) (st1 := []) rfl ?_
  refine m_E.lp (fun i ls hh => ∃ v8, ls = [some (.ref 4), some (.int x), some (.ref 61), some (.ref 66), some (.ref 67), some (.float (g_sum (q_can F (w_now W)) i)), some (.int (nI (g_cnt (q_r1 F (w_now W)) i))), some (.int (nI i)), v8, none, none, none] ∧ (hh = h)) (c_lf (w_now W)) ?_ ?_ ?_
  · skip
    rintro i _ hh hi ⟨v8, rfl, hI⟩ K
    have eh := hI.symm
    subst eh
    have hi : i < c_lf (w_now W) := by assumption
    obtain ⟨hf, h2⟩ := lf_lt t hi
    have lo := t.ord _ h2
    obtain ⟨g1, g2, g3⟩ := q_gs_ok (F := F) t hf h2
    obtain ⟨lq1, lq2⟩ := q_can_pos (F := F) t hi
    refine m_E.run 3 (pc1 := 14) (ls1 := [some _, some _, some _, some _, some _, some _, some _, some _, _, none, none, none]) (st1 := [_, _, _]) rfl ?_
    refine m_E.yr H.1 ok.1 rfl (by omega) (by decide) (yq.2.2.2.2.1) rfl ?_
    refine m_E.icf ((m_leI (by omega) (by omega)).trans (decide_eq_false (by omega))) rfl ?_
    refine m_E.run 3 (pc1 := 23) (ls1 := [some _, some _, some _, some _, some _, some _, some _, some _, _, none, none, none]) (st1 := [_, _, _]) rfl ?_
    refine m_E.yr H.2.2.2.2.2.1 ok.2.2.2.2.2.1 rfl (by omega) (by decide) ((yk.1 i hi)) rfl ?_
    refine m_E.yr H.2.2.2.2.2.2.1 ok.2.2.2.2.2.2.1 rfl (by omega) (by decide) (((yk.2 hf).1 _ lo)) rfl ?_
    refine m_E.run 2 (pc1 := 28) (ls1 := [some _, some _, some _, some _, some _, some _, some _, some _, _, none, none, none]) (st1 := [_, _, _]) rfl ?_
    refine m_E.cv rfl rfl (y_alike (d := d + 5) (m := q_mk F (w_now W) i) H ok yk t G hf rfl (q_mk_lt t G hi) g1 g2 g3) ?_
    rw [q_al_can t hf]
    refine m_E.run 5 (pc1 := 40) (ls1 := [some _, some _, some _, some _, some _, some _, some _, some _, some _, none, none, none]) (st1 := [_, _, _, _]) rfl ?_
    refine m_E.div (by decide) rfl ?_
    rw [m_rem (by omega) 100 (by decide) (by decide), show (q_can F (w_now W) i + 100 * q_gs F (w_now W) i) % 100 = q_can F (w_now W) i by omega]
    refine m_E.run 1 (pc1 := 42) (ls1 := [some _, some _, some _, some _, some _, some _, some _, some _, some _, none, none, none]) (st1 := [_, _, _]) rfl ?_
    refine m_E.fbin (hn.1.1 _ lq1 lq2) rfl ?_
    refine m_E.fbin (hn.1.2 (q_can F (w_now W)) (i + 1) (fun j hj => q_can_pos t (by omega))) rfl ?_
    refine m_E.run 4 (pc1 := 52) (ls1 := [some _, some _, some _, some _, some _, some _, some _, some _, some _, none, none, none]) (st1 := [_, _, _]) rfl ?_
    refine m_E.div (by decide) rfl ?_
    rw [pk_div (by omega) (by decide) (by decide), show (q_can F (w_now W) i + 100 * q_gs F (w_now W) i) / 100 = q_gs F (w_now W) i by omega]
    refine m_E.run 2 (pc1 := 56) (ls1 := [some _, some _, some _, some _, some _, some _, some _, some _, some _, none, none, none]) (st1 := [_, _, _, _]) rfl ?_
    refine m_E.yr H.2.2.2.2.2.1 ok.2.2.2.2.2.1 rfl (by omega) (by decide) ((yk.1 i hi)) rfl ?_
    by_cases e1 : q_gs F (w_now W) i = (c_order (w_now W)).getD (c_dealt (w_now W) + i) 0
    · skip
      refine m_E.icf (by rw [e1, m_neI (by omega) (by omega)]; simp) rfl ?_
      refine m_E.run 6 (pc1 := 9) (ls1 := [some _, some _, some _, some _, some _, some _, some _, some _, some _, none, none, none]) (st1 := []) rfl ?_
      dsimp only
      rw [g_c1 (p := q_r1 F (w_now W)) (m_beqE e1), nI_add]
      exact K _ _ ⟨_, rfl, rfl⟩
    · skip
      refine m_E.ict ((m_neI (by omega) (by omega)).trans (decide_eq_true e1)) rfl ?_
      refine m_E.run 5 (pc1 := 9) (ls1 := [some _, some _, some _, some _, some _, some _, some _, some _, some _, none, none, none]) (st1 := []) rfl ?_
      dsimp only
      rw [g_c0 (p := q_r1 F (w_now W)) (m_beqN e1), nI_add]
      exact K _ _ ⟨_, rfl, rfl⟩
  · skip
    exact ⟨none, rfl, rfl⟩
  · skip
    rintro _ hh ⟨v8, rfl, hI⟩
    have eh := hI.symm
    subst eh
    have lcard := y_lw_lt x (show 0 < 24 by decide)
    refine m_E.run 3 (pc1 := 14) (ls1 := [some _, some _, some _, some _, some _, some _, some _, some _, _, none, none, none]) (st1 := [_, _, _]) rfl ?_
    refine m_E.yr H.1 ok.1 rfl (by omega) (by decide) (yq.2.2.2.2.1) rfl ?_
    refine m_E.ict ((m_leI (by omega) (by omega)).trans (decide_eq_true (Nat.le_refl _))) rfl ?_
    refine m_E.run 2 (pc1 := 77) (ls1 := [some _, some _, some _, some _, some _, some _, some _, some _, _, none, none, none]) (st1 := [_, _]) rfl ?_
    refine m_E.cv rfl rfl (y_low (n := 24) rfl (by decide) (by decide)) ?_
    generalize y_lw x 24 = card at *
    refine m_E.run 5 (pc1 := 89) (ls1 := [some _, some _, some _, some _, some _, some _, some _, some _, some _, some _, none, none]) (st1 := []) rfl ?_
    refine m_E.lp (fun i ls hh => ∃ pl, ls = [some (.ref 4), some (.int x), some (.ref 61), some (.ref 66), some (.ref 67), some (.float (g_sum (q_can F (w_now W)) (c_lf (w_now W)))), some (.int (nI (g_cnt (q_r1 F (w_now W)) (c_lf (w_now W))))), some (.int (nI card)), some (.int pl), some (.int (nI i)), none, none] ∧ (hh = h ∧ Ypl (w_now W) card i pl)) (c_lf (w_now W)) ?_ ?_ ?_
    · skip
      rintro i _ hh hi ⟨pl, rfl, hI⟩ K
      obtain ⟨eh0, P⟩ := hI
      have eh := eh0.symm
      subst eh
      have hi : i < c_lf (w_now W) := by assumption
      have lo := t.ord _ (lf_lt t hi).2
      refine m_E.run 3 (pc1 := 94) (ls1 := [some _, some _, some _, some _, some _, some _, some _, some _, some _, some _, none, none]) (st1 := [_, _, _]) rfl ?_
      refine m_E.yr H.1 ok.1 rfl (by omega) (by decide) (yq.2.2.2.2.1) rfl ?_
      refine m_E.icf ((m_leI (by omega) (by omega)).trans (decide_eq_false (by omega))) rfl ?_
      refine m_E.run 2 (pc1 := 101) (ls1 := [some _, some _, some _, some _, some _, some _, some _, some _, some _, some _, none, none]) (st1 := [_, _]) rfl ?_
      refine m_E.yr H.2.2.2.2.2.1 ok.2.2.2.2.2.1 rfl (by omega) (by decide) ((yk.1 i hi)) rfl ?_
      refine m_E.run 1 (pc1 := 104) (ls1 := [some _, some _, some _, some _, some _, some _, some _, some _, some _, some _, none, none]) (st1 := [_, _]) rfl ?_
      by_cases e1 : (c_order (w_now W)).getD (c_dealt (w_now W) + i) 0 = card
      · skip
        refine m_E.icf (by rw [e1, m_neI (by omega) (by omega)]; simp) rfl ?_
        refine m_E.run 5 (pc1 := 89) (ls1 := [some _, some _, some _, some _, some _, some _, some _, some _, some _, some _, none, none]) (st1 := []) rfl ?_
        rw [nI_add]
        exact K _ _ ⟨_, rfl, rfl, Or.inr ⟨i, Nat.lt_succ_self i, e1, rfl⟩⟩
      · skip
        refine m_E.ict ((m_neI (by omega) (by omega)).trans (decide_eq_true e1)) rfl ?_
        refine m_E.run 4 (pc1 := 89) (ls1 := [some _, some _, some _, some _, some _, some _, some _, some _, some _, some _, none, none]) (st1 := []) rfl ?_
        rw [nI_add]
        refine K _ _ ⟨_, rfl, rfl, ?_⟩
        rcases P with ⟨P, e2⟩ | ⟨j, P1, P2, e2⟩
        · exact Or.inl ⟨fun j hj => by by_cases z : j = i; rw [z]; exact e1; exact P j (by omega), e2⟩
        · exact Or.inr ⟨j, by omega, P2, e2⟩
    · skip
      exact ⟨_, rfl, rfl, Or.inl ⟨fun j hj => absurd hj (Nat.not_lt_zero j), rfl⟩⟩
    · skip
      rintro _ hh ⟨pl, rfl, hI⟩
      obtain ⟨eh0, P⟩ := hI
      have eh := eh0.symm
      subst eh
      have epl := P.end t
      subst epl
      have k3 : r_count F W (nI 3) = nI (c_lf (w_now W)) := y_cnt (by decide)
      have k4 : r_count F W (nI 4) = nI (c_dealt (w_now W)) := y_cnt (by decide)
      have k5 : r_count F W (nI 5) = nI (g_cnt (q_k1 F (w_now W)) (c_lf (w_now W))) := y_cnt (by decide)
      have k6 : r_count F W (nI 6) = nI (g_cnt (q_r1 F (w_now W)) (c_lf (w_now W))) := y_cnt (by decide)
      refine m_E.run 3 (pc1 := 94) (ls1 := [some _, some _, some _, some _, some _, some _, some _, some _, some _, some _, none, none]) (st1 := [_, _, _]) rfl ?_
      refine m_E.yr H.1 ok.1 rfl (by omega) (by decide) (yq.2.2.2.2.1) rfl ?_
      refine m_E.ict ((m_leI (by omega) (by omega)).trans (decide_eq_true (Nat.le_refl _))) rfl ?_
      refine m_E.run 2 (pc1 := 124) (ls1 := [some _, some _, some _, some _, some _, some _, some _, some _, some _, some _, none, none]) (st1 := [_, _]) rfl ?_
      refine m_E.ov HC.o (by decide) rfl rfl rfl (o_count (y := nI 3) HC okw) ?_
      rw [k3]
      refine m_E.run 2 (pc1 := 130) (ls1 := [some _, some _, some _, some _, some _, some _, some _, some _, some _, some _, none, none]) (st1 := [_, _, _]) rfl ?_
      refine m_E.yr H.1 ok.1 rfl (by omega) (by decide) (yq.2.2.2.2.1) rfl ?_
      refine m_E.icf (y_nn _) rfl ?_
      refine m_E.run 2 (pc1 := 136) (ls1 := [some _, some _, some _, some _, some _, some _, some _, some _, some _, some _, none, none]) (st1 := [_, _]) rfl ?_
      refine m_E.ov HC.o (by decide) rfl rfl rfl (o_count (y := nI 4) HC okw) ?_
      rw [k4]
      refine m_E.run 2 (pc1 := 142) (ls1 := [some _, some _, some _, some _, some _, some _, some _, some _, some _, some _, none, none]) (st1 := [_, _, _]) rfl ?_
      refine m_E.yr H.1 ok.1 rfl (by omega) (by decide) (yq.2.2.2.1) rfl ?_
      refine m_E.run 1 (pc1 := 144) (ls1 := [some _, some _, some _, some _, some _, some _, some _, some _, some _, some _, none, none]) (st1 := [_, _, _]) rfl ?_
      have last : m_E (m_Call m_P (d + 6)) tL_isPack 268 [some (.ref 4), some (.int x), some (.ref 61), some (.ref 66), some (.ref 67), some (.float (g_sum (q_can F (w_now W)) (c_lf (w_now W)))), some (.int (nI (g_cnt (q_r1 F (w_now W)) (c_lf (w_now W))))), some (.int (nI card)), some (.int (r_place (w_now W) card)), some (.int (nI (c_lf (w_now W)))), none, none] [.int (nI 1)] h (fun r2 h2 => r2 = some (.int (nI 1)) ∧ h2 = h) := by
        refine m_E.run 3 (pc1 := 273) (ls1 := [some _, some _, some _, some _, some _, some _, some _, some _, some _, some _, none, none]) (st1 := [_, _]) rfl ?_
        refine m_E.yr H.1 ok.1 rfl (by omega) (by decide) (yq.2.2.2.2.1) rfl ?_
        by_cases e0 : c_lf (w_now W) = 0
        · skip
          refine m_E.iff (by rw [e0]; rfl) rfl ?_
          refine m_E.run 1 (pc1 := 279) (ls1 := [some _, some _, some _, some _, some _, some _, some _, some _, some _, some _, none, none]) (st1 := [_]) rfl ?_
          exact m_E.zret (by decide) rfl ⟨rfl, rfl⟩
        · skip
          have lat := y_lw_lt (x >>> (nI 5 &&& 31)) (show 0 < c_lf (w_now W) by omega)
          refine m_E.ift (by rw [m_beq0 (by omega), decide_eq_false e0]; rfl) rfl ?_
          refine m_E.run 5 (pc1 := 286) (ls1 := [some _, some _, some _, some _, some _, some _, some _, some _, some _, some _, none, none]) (st1 := [_, _, _]) rfl ?_
          dsimp only
          refine m_E.yr H.1 ok.1 rfl (by omega) (by decide) (yq.2.2.2.2.1) rfl ?_
          refine m_E.cv rfl rfl (y_low (n := c_lf (w_now W)) rfl (by omega) (by omega)) ?_
          generalize y_lw (x >>> (nI 5 &&& 31)) (c_lf (w_now W)) = at_ at *
          obtain ⟨hf, h2⟩ := lf_lt t lat
          have lo := t.ord _ h2
          obtain ⟨g1, g2, g3⟩ := q_gs_ok (F := F) t hf h2
          obtain ⟨lq1, lq2⟩ := q_can_pos (F := F) t lat
          refine m_E.run 4 (pc1 := 297) (ls1 := [some _, some _, some _, some _, some _, some _, some _, some _, some _, some _, some _, none]) (st1 := [_, _, _]) rfl ?_
          refine m_E.yr H.2.2.2.2.2.1 ok.2.2.2.2.2.1 rfl (by omega) (by decide) ((yk.1 at_ lat)) rfl ?_
          refine m_E.yr H.2.2.2.2.2.2.1 ok.2.2.2.2.2.2.1 rfl (by omega) (by decide) (((yk.2 hf).1 _ lo)) rfl ?_
          refine m_E.run 2 (pc1 := 302) (ls1 := [some _, some _, some _, some _, some _, some _, some _, some _, some _, some _, some _, none]) (st1 := [_, _, _]) rfl ?_
          refine m_E.cv rfl rfl (y_alike (d := d + 5) (m := q_mk F (w_now W) at_) H ok yk t G hf rfl (q_mk_lt t G lat) g1 g2 g3) ?_
          rw [q_al_can t hf]
          refine m_E.run 2 (pc1 := 309) (ls1 := [some _, some _, some _, some _, some _, some _, some _, some _, some _, some _, some _, some _]) (st1 := [_]) rfl ?_
          refine m_E.iff (by decide) rfl ?_
          refine m_E.run 3 (pc1 := 316) (ls1 := [some _, some _, some _, some _, some _, some _, some _, some _, some _, some _, some _, some _]) (st1 := [_, _, _]) rfl ?_
          refine m_E.ov HC.o (by decide) rfl rfl rfl (o_pack (x := nI at_) (y := nI 0) HC okw) ?_
          rw [y_pack lat (by decide)]
          refine m_E.run 2 (pc1 := 322) (ls1 := [some _, some _, some _, some _, some _, some _, some _, some _, some _, some _, some _, some _]) (st1 := [_, _, _]) rfl ?_
          refine m_E.yr H.2.2.2.2.2.1 ok.2.2.2.2.2.1 rfl (by omega) (by decide) ((yk.1 at_ lat)) rfl ?_
          refine m_E.icf (y_nn _) rfl ?_
          refine m_E.run 3 (pc1 := 330) (ls1 := [some _, some _, some _, some _, some _, some _, some _, some _, some _, some _, some _, some _]) (st1 := [_, _, _]) rfl ?_
          refine m_E.ov HC.o (by decide) rfl rfl rfl (o_pack (x := nI at_) (y := nI 1) HC okw) ?_
          rw [y_pack lat (by decide)]
          refine m_E.run 3 (pc1 := 338) (ls1 := [some _, some _, some _, some _, some _, some _, some _, some _, some _, some _, some _, some _]) (st1 := [_, _, _, _]) rfl ?_
          refine m_E.yr H.2.2.2.2.2.1 ok.2.2.2.2.2.1 rfl (by omega) (by decide) ((yk.1 at_ lat)) rfl ?_
          refine m_E.yr H.2.2.2.2.2.2.1 ok.2.2.2.2.2.2.1 rfl (by omega) (by decide) (((yk.2 hf).1 _ lo)) rfl ?_
          refine m_E.icf (y_nn _) rfl ?_
          refine m_E.run 3 (pc1 := 347) (ls1 := [some _, some _, some _, some _, some _, some _, some _, some _, some _, some _, some _, some _]) (st1 := [_, _, _]) rfl ?_
          refine m_E.ov HC.o (by decide) rfl rfl rfl (o_pack (x := nI at_) (y := nI 2) HC okw) ?_
          rw [y_pack lat (by decide)]
          refine m_E.run 2 (pc1 := 354) (ls1 := [some _, some _, some _, some _, some _, some _, some _, some _, some _, some _, some _, some _]) (st1 := [_, _, _]) rfl ?_
          refine m_E.div (by decide) rfl ?_
          rw [m_rem (by omega) 100 (by decide) (by decide), show (q_can F (w_now W) at_ + 100 * q_gs F (w_now W) at_) % 100 = q_can F (w_now W) at_ by omega]
          refine m_E.icf (y_nn _) rfl ?_
          refine m_E.run 3 (pc1 := 362) (ls1 := [some _, some _, some _, some _, some _, some _, some _, some _, some _, some _, some _, some _]) (st1 := [_, _, _]) rfl ?_
          refine m_E.ov HC.o (by decide) rfl rfl rfl (o_pack (x := nI at_) (y := nI 3) HC okw) ?_
          rw [y_pack lat (by decide)]
          refine m_E.run 2 (pc1 := 369) (ls1 := [some _, some _, some _, some _, some _, some _, some _, some _, some _, some _, some _, some _]) (st1 := [_, _, _]) rfl ?_
          refine m_E.div (by decide) rfl ?_
          rw [pk_div (by omega) (by decide) (by decide), show (q_can F (w_now W) at_ + 100 * q_gs F (w_now W) at_) / 100 = q_gs F (w_now W) at_ by omega]
          refine m_E.icf (y_nn _) rfl ?_
          refine m_E.run 3 (pc1 := 377) (ls1 := [some _, some _, some _, some _, some _, some _, some _, some _, some _, some _, some _, some _]) (st1 := [_, _, _]) rfl ?_
          refine m_E.ov HC.o (by decide) rfl rfl rfl (o_pack (x := nI at_) (y := nI 4) HC okw) ?_
          rw [y_pack lat (by decide), show r_pk F (w_now W) at_ 4 = (if q_can F (w_now W) at_ = 1 then nI 1 else nI 0) from rfl]
          refine m_E.run 2 (pc1 := 384) (ls1 := [some _, some _, some _, some _, some _, some _, some _, some _, some _, some _, some _, some _]) (st1 := [_, _, _]) rfl ?_
          refine m_E.div (by decide) rfl ?_
          rw [m_rem (by omega) 100 (by decide) (by decide), show (q_can F (w_now W) at_ + 100 * q_gs F (w_now W) at_) % 100 = q_can F (w_now W) at_ by omega]
          refine m_E.run 1 (pc1 := 386) (ls1 := [some _, some _, some _, some _, some _, some _, some _, some _, some _, some _, some _, some _]) (st1 := [_, _, _]) rfl ?_
          have tail : ∀ v : Int32, v = (if q_can F (w_now W) at_ = 1 then nI 1 else nI 0) → m_E (m_Call m_P (d + 6)) tL_isPack 394 [some (.ref 4), some (.int x), some (.ref 61), some (.ref 66), some (.ref 67), some (.float (g_sum (q_can F (w_now W)) (c_lf (w_now W)))), some (.int (nI (g_cnt (q_r1 F (w_now W)) (c_lf (w_now W))))), some (.int (nI card)), some (.int (r_place (w_now W) card)), some (.int (nI 1)), some (.int (nI at_)), some (.int (nI (q_can F (w_now W) at_ + 100 * q_gs F (w_now W) at_)))] [.int v, .int (if q_can F (w_now W) at_ = 1 then nI 1 else nI 0)] h (fun r2 h2 => r2 = some (.int (nI 1)) ∧ h2 = h) := by
            intro v hv
            subst hv
            refine m_E.icf (y_nn _) rfl ?_
            refine m_E.run 3 (pc1 := 401) (ls1 := [some _, some _, some _, some _, some _, some _, some _, some _, some _, some _, some _, some _]) (st1 := [_, _, _]) rfl ?_
            refine m_E.ov HC.o (by decide) rfl rfl rfl (o_pack (x := nI at_) (y := nI 5) HC okw) ?_
            rw [y_pack5 lat]
            refine m_E.run 1 (pc1 := 406) (ls1 := [some _, some _, some _, some _, some _, some _, some _, some _, some _, some _, some _, some _]) (st1 := [_, _]) rfl ?_
            refine m_E.icf (y_nn _) rfl ?_
            refine m_E.run 2 (pc1 := 414) (ls1 := [some _, some _, some _, some _, some _, some _, some _, some _, some _, some _, some _, some _]) (st1 := [_]) rfl ?_
            exact m_E.zret (by decide) rfl ⟨rfl, rfl⟩
          by_cases e1 : q_can F (w_now W) at_ = 1
          · skip
            refine m_E.icf (by rw [e1]; rfl) rfl ?_
            refine m_E.run 2 (pc1 := 394) (ls1 := [some _, some _, some _, some _, some _, some _, some _, some _, some _, some _, some _, some _]) (st1 := [_, _]) rfl ?_
            exact tail (nI 1) (if_pos e1).symm
          · skip
            refine m_E.ict ((m_neI (by omega) (by omega)).trans (decide_eq_true e1)) rfl ?_
            refine m_E.run 1 (pc1 := 394) (ls1 := [some _, some _, some _, some _, some _, some _, some _, some _, some _, some _, some _, some _]) (st1 := [_, _]) rfl ?_
            exact tail (nI 0) (if_neg e1).symm
      by_cases ef : c_fr (w_now W) = none
      · skip
        have el : c_lf (w_now W) = 0 := y_lf0 ef
        have ed : c_dealt (w_now W) = 0 := t.2.2.2.2.2.1 ef
        have ec : r_chances F (w_now W) = 3212836864 := by rw [r_chances, ef]
        have nx := hn.2 F (w_now W)
        rw [ec] at nx
        have em : ∀ c, r_marks F (w_now W) c = -5 := fun c => by rw [r_marks, ef]
        rw [if_pos ef, ed]
        refine m_E.ict (by decide) rfl ?_
        refine m_E.run 1 (pc1 := 158) (ls1 := [some _, some _, some _, some _, some _, some _, some _, some _, some _, some _, none, none]) (st1 := [_, _]) rfl ?_
        refine m_E.icf (y_nn _) rfl ?_
        refine m_E.run 2 (pc1 := 163) (ls1 := [some _, some _, some _, some _, some _, some _, some _, some _, some _, some _, none, none]) (st1 := [_, _]) rfl ?_
        refine m_E.ov HC.o (by decide) rfl rfl rfl (o_count (y := nI 5) HC okw) ?_
        rw [k5]
        refine m_E.run 3 (pc1 := 170) (ls1 := [some _, some _, some _, some _, some _, some _, some _, some _, some _, some _, none, none]) (st1 := [_, _, _, _]) rfl ?_
        refine m_E.cv rfl rfl (y_known (d := d + 4) H Y t G) ?_
        refine m_E.icf (y_nn _) rfl ?_
        refine m_E.run 2 (pc1 := 179) (ls1 := [some _, some _, some _, some _, some _, some _, some _, some _, some _, some _, none, none]) (st1 := [_, _]) rfl ?_
        refine m_E.ov HC.o (by decide) rfl rfl rfl (o_count (y := nI 6) HC okw) ?_
        rw [k6]
        refine m_E.run 1 (pc1 := 184) (ls1 := [some _, some _, some _, some _, some _, some _, some _, some _, some _, some _, none, none]) (st1 := [_, _]) rfl ?_
        refine m_E.icf (y_nn _) rfl ?_
        refine m_E.run 1 (pc1 := 188) (ls1 := [some _, some _, some _, some _, some _, some _, some _, some _, some _, some _, none, none]) (st1 := [_]) rfl ?_
        refine m_E.ov HC.o (by decide) rfl rfl rfl (o_chances hn.1 HC okw) ?_
        rw [ec]
        refine m_E.run 2 (pc1 := 194) (ls1 := [some _, some _, some _, some _, some _, some _, some _, some _, some _, some _, none, none]) (st1 := [_, _, _]) rfl ?_
        refine m_E.yr H.1 ok.1 rfl (by omega) (by decide) (yq.2.2.2.1) rfl ?_
        rw [if_pos ef]
        refine m_E.run 1 (pc1 := 196) (ls1 := [some _, some _, some _, some _, some _, some _, some _, some _, some _, some _, none, none]) (st1 := [_, _, _]) rfl ?_
        refine m_E.ict (by decide) rfl ?_
        refine m_E.run 2 (pc1 := 207) (ls1 := [some _, some _, some _, some _, some _, some _, some _, some _, some _, some _, none, none]) (st1 := [_]) rfl ?_
        rw [nx]
        refine m_E.iff (by decide) rfl ?_
        refine m_E.run 3 (pc1 := 214) (ls1 := [some _, some _, some _, some _, some _, some _, some _, some _, some _, some _, none, none]) (st1 := [_, _, _]) rfl ?_
        refine m_E.ov HC.o (by decide) rfl rfl rfl (o_cardOf HC okw) ?_
        rw [y_card_2 lcard]
        refine m_E.run 1 (pc1 := 219) (ls1 := [some _, some _, some _, some _, some _, some _, some _, some _, some _, some _, none, none]) (st1 := [_, _]) rfl ?_
        refine m_E.icf (y_nn _) rfl ?_
        refine m_E.run 3 (pc1 := 226) (ls1 := [some _, some _, some _, some _, some _, some _, some _, some _, some _, some _, none, none]) (st1 := [_, _, _]) rfl ?_
        refine m_E.ov HC.o (by decide) rfl rfl rfl (o_cardOf HC okw) ?_
        rw [y_card_3 lcard, em]
        refine m_E.run 2 (pc1 := 232) (ls1 := [some _, some _, some _, some _, some _, some _, some _, some _, some _, some _, none, none]) (st1 := [_, _, _]) rfl ?_
        refine m_E.yr H.1 ok.1 rfl (by omega) (by decide) (yq.2.2.2.1) rfl ?_
        rw [if_pos ef]
        refine m_E.run 1 (pc1 := 234) (ls1 := [some _, some _, some _, some _, some _, some _, some _, some _, some _, some _, none, none]) (st1 := [_, _, _]) rfl ?_
        refine m_E.ict (by decide) rfl ?_
        refine m_E.run 1 (pc1 := 247) (ls1 := [some _, some _, some _, some _, some _, some _, some _, some _, some _, some _, none, none]) (st1 := [_, _]) rfl ?_
        refine m_E.icf (y_nn _) rfl ?_
        refine m_E.run 3 (pc1 := 254) (ls1 := [some _, some _, some _, some _, some _, some _, some _, some _, some _, some _, none, none]) (st1 := [_, _, _]) rfl ?_
        refine m_E.yr H.1 ok.1 rfl (by omega) (by decide) (yq.2.2.2.2.1) rfl ?_
        refine m_E.run 1 (pc1 := 256) (ls1 := [some _, some _, some _, some _, some _, some _, some _, some _, some _, some _, none, none]) (st1 := [_, _, _]) rfl ?_
        refine m_E.ov HC.o (by decide) rfl rfl rfl (o_pack HC okw) ?_
        rw [y_packO]
        refine m_E.run 1 (pc1 := 260) (ls1 := [some _, some _, some _, some _, some _, some _, some _, some _, some _, some _, none, none]) (st1 := [_, _]) rfl ?_
        refine m_E.icf (y_nn _) rfl ?_
        refine m_E.run 2 (pc1 := 268) (ls1 := [some _, some _, some _, some _, some _, some _, some _, some _, some _, some _, none, none]) (st1 := [_]) rfl ?_
        exact last
      · skip
        have ld := c_lf_eq t ef
        have ec := y_chn (F := F) ef ld
        have nx := hn.2 F (w_now W)
        rw [ec] at nx
        have em : r_marks F (w_now W) card = nI ((c_shf F (w_now W)).2.1.getD card 0) := by rw [r_marks, c_shf]; cases e : c_fr (w_now W) with | none => exact absurd e ef | some k => rfl
        rw [if_neg ef]
        refine m_E.icf (by decide) rfl ?_
        refine m_E.run 3 (pc1 := 152) (ls1 := [some _, some _, some _, some _, some _, some _, some _, some _, some _, some _, none, none]) (st1 := [_, _, _, _]) rfl ?_
        refine m_E.yr H.1 ok.1 rfl (by omega) (by decide) (yq.2.2.2.2.1) rfl ?_
        refine m_E.run 2 (pc1 := 158) (ls1 := [some _, some _, some _, some _, some _, some _, some _, some _, some _, some _, none, none]) (st1 := [_, _]) rfl ?_
        dsimp only
        rw [pk_sub (by omega), show 24 - c_lf (w_now W) = c_dealt (w_now W) by omega]
        refine m_E.icf (y_nn _) rfl ?_
        refine m_E.run 2 (pc1 := 163) (ls1 := [some _, some _, some _, some _, some _, some _, some _, some _, some _, some _, none, none]) (st1 := [_, _]) rfl ?_
        refine m_E.ov HC.o (by decide) rfl rfl rfl (o_count (y := nI 5) HC okw) ?_
        rw [k5]
        refine m_E.run 3 (pc1 := 170) (ls1 := [some _, some _, some _, some _, some _, some _, some _, some _, some _, some _, none, none]) (st1 := [_, _, _, _]) rfl ?_
        refine m_E.cv rfl rfl (y_known (d := d + 4) H Y t G) ?_
        refine m_E.icf (y_nn _) rfl ?_
        refine m_E.run 2 (pc1 := 179) (ls1 := [some _, some _, some _, some _, some _, some _, some _, some _, some _, some _, none, none]) (st1 := [_, _]) rfl ?_
        refine m_E.ov HC.o (by decide) rfl rfl rfl (o_count (y := nI 6) HC okw) ?_
        rw [k6]
        refine m_E.run 1 (pc1 := 184) (ls1 := [some _, some _, some _, some _, some _, some _, some _, some _, some _, some _, none, none]) (st1 := [_, _]) rfl ?_
        refine m_E.icf (y_nn _) rfl ?_
        refine m_E.run 1 (pc1 := 188) (ls1 := [some _, some _, some _, some _, some _, some _, some _, some _, some _, some _, none, none]) (st1 := [_]) rfl ?_
        refine m_E.ov HC.o (by decide) rfl rfl rfl (o_chances hn.1 HC okw) ?_
        rw [ec]
        refine m_E.run 2 (pc1 := 194) (ls1 := [some _, some _, some _, some _, some _, some _, some _, some _, some _, some _, none, none]) (st1 := [_, _, _]) rfl ?_
        refine m_E.yr H.1 ok.1 rfl (by omega) (by decide) (yq.2.2.2.1) rfl ?_
        rw [if_neg ef]
        refine m_E.run 1 (pc1 := 196) (ls1 := [some _, some _, some _, some _, some _, some _, some _, some _, some _, some _, none, none]) (st1 := [_, _, _]) rfl ?_
        refine m_E.icf (by decide) rfl ?_
        refine m_E.run 3 (pc1 := 207) (ls1 := [some _, some _, some _, some _, some _, some _, some _, some _, some _, some _, none, none]) (st1 := [_]) rfl ?_
        rw [nx]
        refine m_E.iff (by decide) rfl ?_
        refine m_E.run 3 (pc1 := 214) (ls1 := [some _, some _, some _, some _, some _, some _, some _, some _, some _, some _, none, none]) (st1 := [_, _, _]) rfl ?_
        refine m_E.ov HC.o (by decide) rfl rfl rfl (o_cardOf HC okw) ?_
        rw [y_card_2 lcard]
        refine m_E.run 1 (pc1 := 219) (ls1 := [some _, some _, some _, some _, some _, some _, some _, some _, some _, some _, none, none]) (st1 := [_, _]) rfl ?_
        refine m_E.icf (y_nn _) rfl ?_
        refine m_E.run 3 (pc1 := 226) (ls1 := [some _, some _, some _, some _, some _, some _, some _, some _, some _, some _, none, none]) (st1 := [_, _, _]) rfl ?_
        refine m_E.ov HC.o (by decide) rfl rfl rfl (o_cardOf HC okw) ?_
        rw [y_card_3 lcard, em]
        refine m_E.run 2 (pc1 := 232) (ls1 := [some _, some _, some _, some _, some _, some _, some _, some _, some _, some _, none, none]) (st1 := [_, _, _]) rfl ?_
        refine m_E.yr H.1 ok.1 rfl (by omega) (by decide) (yq.2.2.2.1) rfl ?_
        rw [if_neg ef]
        refine m_E.run 1 (pc1 := 234) (ls1 := [some _, some _, some _, some _, some _, some _, some _, some _, some _, some _, none, none]) (st1 := [_, _, _]) rfl ?_
        refine m_E.icf (by decide) rfl ?_
        refine m_E.run 2 (pc1 := 241) (ls1 := [some _, some _, some _, some _, some _, some _, some _, some _, some _, some _, none, none]) (st1 := [_, _, _]) rfl ?_
        refine m_E.yr H.2.2.2.2.2.2.1 ok.2.2.2.2.2.2.1 rfl (by omega) (by decide) (((yk.2 ef).1 card lcard)) rfl ?_
        refine m_E.run 1 (pc1 := 247) (ls1 := [some _, some _, some _, some _, some _, some _, some _, some _, some _, some _, none, none]) (st1 := [_, _]) rfl ?_
        refine m_E.icf (y_nn _) rfl ?_
        refine m_E.run 3 (pc1 := 254) (ls1 := [some _, some _, some _, some _, some _, some _, some _, some _, some _, some _, none, none]) (st1 := [_, _, _]) rfl ?_
        refine m_E.yr H.1 ok.1 rfl (by omega) (by decide) (yq.2.2.2.2.1) rfl ?_
        refine m_E.run 1 (pc1 := 256) (ls1 := [some _, some _, some _, some _, some _, some _, some _, some _, some _, some _, none, none]) (st1 := [_, _, _]) rfl ?_
        refine m_E.ov HC.o (by decide) rfl rfl rfl (o_pack HC okw) ?_
        rw [y_packO]
        refine m_E.run 1 (pc1 := 260) (ls1 := [some _, some _, some _, some _, some _, some _, some _, some _, some _, some _, none, none]) (st1 := [_, _]) rfl ?_
        refine m_E.icf (y_nn _) rfl ?_
        refine m_E.run 2 (pc1 := 268) (ls1 := [some _, some _, some _, some _, some _, some _, some _, some _, some _, some _, none, none]) (st1 := [_]) rfl ?_
        exact last
