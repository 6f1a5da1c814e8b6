/-! the model's calls that write: blocks -/
def d_xch (r : List Int32) (i j : Nat) : List Int32 := (r.set (11 + i) (r.getD (11 + j) 0)).set (11 + j) (r.getD (11 + i) 0)
theorem Enc.xch {n p i j : Nat} {F : Nat → c_Sh} {S : c_St} {r : List Int32} (E : Enc F S r) (t : Tok n p S) (hi : i < 24) (hj : j < 24) : Enc F (c_xch S i j) (d_xch r i j) := by
  have l := E.len
  have lc := t.1.1
  refine E.wcards t ((List.length_set ..).trans ((List.length_set ..).trans l)) (fun k hk => ?_) (fun k hk => ?_)
  · rw [d_xch, g_so (by omega), g_so (by omega)]
  · rw [d_xch, g_sd (by rw [List.length_set]; omega), g_sd (by omega), g_xch_get (by omega) (by omega), E.card hi, E.card hj]
    by_cases e1 : k = j
    · rw [if_pos (by omega), if_pos e1]
    · rw [if_neg (by omega), if_neg e1]
      by_cases e2 : k = i
      · rw [if_pos (by omega), if_pos e2]
      · rw [if_neg (by omega), if_neg e2]; exact E.card hk
theorem Enc.mark {n p i m : Nat} {is : Bool} {F : Nat → c_Sh} {S : c_St} {r : List Int32} (E : Enc F S r) (t : Tok n p S) (hi : i < 24) : Enc F (c_mark S i m is) (r.set (59 + i) (nI (g_mset ((c_backs S).getD i 0) m is))) := by
  have l := E.len
  have lc := t.1.2.2.2.1
  refine E.wbacks t ((List.length_set ..).trans l) (fun k hk => g_so (by omega)) (fun k hk => ?_)
  rw [g_sd (by omega), g_sdN (by omega)]
  by_cases e1 : k = i
  · rw [if_pos (by omega), if_pos e1]
  · rw [if_neg (by omega), if_neg e1]; exact E.back hk
theorem Enc.setlean {n p i : Nat} {y : Int32} {F : Nat → c_Sh} {S : c_St} {r : List Int32} (E : Enc F S r) (t : Tok n p S) (hi : i < 24) : Enc F (c_setLeans S ((c_leans S).set i y)) (r.set (35 + i) y) := by
  have l := E.len
  have lc := t.1.2.2.1
  refine E.wleans t ((List.length_set ..).trans l) (fun k hk => g_so (by omega)) (fun k hk => ?_)
  rw [g_sd (by omega), g_sd (by omega)]
  by_cases e1 : k = i
  · rw [if_pos (by omega), if_pos e1]
  · rw [if_neg (by omega), if_neg e1]; exact E.lean hk
theorem Enc.setset {n p i v : Nat} {F : Nat → c_Sh} {S : c_St} {r : List Int32} (E : Enc F S r) (t : Tok n p S) (hi : i < 4) : Enc F (c_setSettings S ((c_settings S).set i v)) (r.set i (nI v)) := by
  have l := E.len
  have lc := t.1.2.2.2.2.2.1
  refine E.wset t ((List.length_set ..).trans l) (fun k hk => g_so (by omega)) (fun k hk => ?_)
  rw [g_sd (by omega), g_sdN (by omega)]
  by_cases e1 : k = i
  · rw [if_pos e1, if_pos e1]
  · rw [if_neg e1, if_neg e1]; exact E.set hk
theorem e_exchange {d : Nat} {i j : Nat} {x y : Int32} {M : c_M} {h : m_Hp} (H : Hmo h M) (hl : (d_state M).length = 611) (hx : x = nI i) (hi : i < 24) (hy : y = nI j) (hj : j < 24) : ∃ r h', m_Call m_P (d + 1) 108 [.ref 61, .int x, .int y] (h) r h' ∧ (fun r h2 => r = none ∧ Hmo h2 (d_set_state M (d_xch (d_state M) i j)) ∧ Chg 61 69 h h2) r h' := by
  refine m_call_ex (tab := tX6_exchange) (nL := 4) rfl rfl ?_
  subst hx hy
  refine m_E.run 1 (pc1 := 1) (ls1 := [some _, some _, some _, none]) (st1 := [_]) rfl ?_
  refine m_E.gf H.o (by decide) rfl rfl ?_
  refine m_E.run 3 (pc1 := 8) (ls1 := [some _, some _, some _, none]) (st1 := [_, _]) rfl ?_
  dsimp only
  refine m_E.rs H hl (nI_add _ _) (by omega) (rfl) rfl ?_
  refine m_E.run 2 (pc1 := 11) (ls1 := [some _, some _, some _, some _]) (st1 := [_]) rfl ?_
  refine m_E.gf H.o (by decide) rfl rfl ?_
  refine m_E.run 4 (pc1 := 19) (ls1 := [some _, some _, some _, some _]) (st1 := [_, _, _]) rfl ?_
  dsimp only
  refine m_E.gf H.o (by decide) rfl rfl ?_
  refine m_E.run 3 (pc1 := 26) (ls1 := [some _, some _, some _, some _]) (st1 := [_, _, _, _]) rfl ?_
  dsimp only
  refine m_E.rs H hl (nI_add _ _) (by omega) (rfl) rfl ?_
  refine m_E.ws H hl (nI_add _ _) (by omega) rfl (fun h1 H1 c1 => ?_)
  have l1 : (d_state (d_set_state M ((d_state M).set (11 + i) ((d_state M).getD (11 + j) 0)))).length = 611 := (List.length_set ..).trans hl
  refine m_E.run 1 (pc1 := 29) (ls1 := [some _, some _, some _, some _]) (st1 := [_]) rfl ?_
  refine m_E.gf H1.o (by decide) rfl rfl ?_
  refine m_E.run 4 (pc1 := 37) (ls1 := [some _, some _, some _, some _]) (st1 := [_, _, _]) rfl ?_
  dsimp only
  refine m_E.ws H1 l1 (nI_add _ _) (by omega) rfl (fun h2 H2 c2 => ?_)
  exact m_E.vret rfl ⟨rfl, H2, c1.tr c2⟩
theorem g_or_ok : ∀ v, v < 16 → ∀ m, m < 4 → (nI v ||| (nI 1 <<< (nI m &&& 31))) = nI (g_mset v m true) := by decide +kernel
theorem e_setMark {d : Nat} {i m v : Nat} {is : Bool} {x y z : Int32} {M : c_M} {h : m_Hp} (H : Hmo h M) (hl : (d_state M).length = 611) (hx : x = nI i) (hi : i < 24) (hy : y = nI m) (hm : m < 4) (hz : z = m_bI is) (hv : (d_state M).getD (59 + i) 0 = nI v) (lv : v < 16) : ∃ r h', m_Call m_P (d + 1) 109 [.ref 61, .int x, .int y, .int z] (h) r h' ∧ (fun r h2 => r = none ∧ Hmo h2 (d_set_state M ((d_state M).set (59 + i) (nI (g_mset v m is)))) ∧ Chg 61 69 h h2) r h' := by
  refine m_call_ex (tab := tX6_setMark) (nL := 4) rfl rfl ?_
  subst hx hy hz
  refine m_E.run 1 (pc1 := 1) (ls1 := [some _, some _, some _, some _]) (st1 := [_]) rfl ?_
  refine m_E.gf H.o (by decide) rfl rfl ?_
  refine m_E.run 4 (pc1 := 9) (ls1 := [some _, some _, some _, some _]) (st1 := [_, _, _]) rfl ?_
  dsimp only
  cases is
  · skip
    refine m_E.ift (rfl) rfl ?_
    refine m_E.run 1 (pc1 := 29) (ls1 := [some _, some _, some _, some _]) (st1 := [_, _, _]) rfl ?_
    refine m_E.gf H.o (by decide) rfl rfl ?_
    refine m_E.run 3 (pc1 := 36) (ls1 := [some _, some _, some _, some _]) (st1 := [_, _, _, _]) rfl ?_
    dsimp only
    refine m_E.rs H hl (nI_add _ _) (by omega) (hv) rfl ?_
    refine m_E.run 6 (pc1 := 43) (ls1 := [some _, some _, some _, some _]) (st1 := [_, _, _]) rfl ?_
    dsimp only
    rw [(g_clr_ok v lv m hm).1]
    refine m_E.ws H hl (nI_add _ _) (by omega) rfl (fun h1 H1 c1 => ?_)
    exact m_E.vret rfl ⟨rfl, H1, c1⟩
  · skip
    refine m_E.iff (rfl) rfl ?_
    refine m_E.run 1 (pc1 := 13) (ls1 := [some _, some _, some _, some _]) (st1 := [_, _, _]) rfl ?_
    refine m_E.gf H.o (by decide) rfl rfl ?_
    refine m_E.run 3 (pc1 := 20) (ls1 := [some _, some _, some _, some _]) (st1 := [_, _, _, _]) rfl ?_
    dsimp only
    refine m_E.rs H hl (nI_add _ _) (by omega) (hv) rfl ?_
    refine m_E.run 5 (pc1 := 43) (ls1 := [some _, some _, some _, some _]) (st1 := [_, _, _]) rfl ?_
    dsimp only
    rw [g_or_ok v lv m hm]
    refine m_E.ws H hl (nI_add _ _) (by omega) rfl (fun h1 H1 c1 => ?_)
    exact m_E.vret rfl ⟨rfl, H1, c1⟩
theorem e_swap {d : Nat} {n p : Nat} {F : Nat → c_Sh} {W : c_W} {x y : Int32} {M : c_M} {h : m_Hp} (H : Hmo h M) (ok : Okm M) (R : Rl F W M) (t : Tok n p (w_now W)) : ∃ r h', m_Call m_P (d + 3) 110 [.ref 61, .int x, .int y] (h) r h' ∧ (Opm F (w_res W (b_swap (w_now W) x y).2) h (b_swap (w_now W) x y).1) r h' := by
  refine m_call_ex (tab := tX6_swap) (nL := 3) rfl rfl ?_
  have lc := t.1.1
  refine m_E.run 1 (pc1 := 1) (ls1 := [some _, some _, some _]) (st1 := [_]) rfl ?_
  refine m_E.cv rfl rfl (e_isCell) ?_
  cases ex : g_in 24 x
  · skip
    have e : b_swap (w_now W) x y = (-1, none) := by rw [b_swap, if_neg (by rw [ex]; simp)]
    rw [e]
    refine m_E.ift (rfl) rfl ?_
    refine m_E.run 1 (pc1 := 15) (ls1 := [some _, some _, some _]) (st1 := [_]) rfl ?_
    exact m_E.iret rfl (Opm.same H ok R)
  · skip
    refine m_E.iff (rfl) rfl ?_
    refine m_E.run 1 (pc1 := 8) (ls1 := [some _, some _, some _]) (st1 := [_]) rfl ?_
    refine m_E.cv rfl rfl (e_isCell) ?_
    cases ey : g_in 24 y
    · skip
      have e : b_swap (w_now W) x y = (-1, none) := by rw [b_swap, if_neg (by rw [ey]; simp)]
      rw [e]
      refine m_E.iff (rfl) rfl ?_
      refine m_E.run 1 (pc1 := 15) (ls1 := [some _, some _, some _]) (st1 := [_]) rfl ?_
      exact m_E.iret rfl (Opm.same H ok R)
    · skip
      obtain ⟨i, hi, rfl⟩ := g_in_of ex (by decide)
      obtain ⟨j, hj, rfl⟩ := g_in_of ey (by decide)
      refine m_E.ift (rfl) rfl ?_
      refine m_E.run 2 (pc1 := 18) (ls1 := [some _, some _, some _]) (st1 := [_, _]) rfl ?_
      by_cases e : i = j
      · skip
        subst e
        have e : b_swap (w_now W) (nI i) (nI i) = (-5, none) := by rw [b_swap, if_pos ⟨ex, ey⟩, if_pos rfl]
        rw [e]
        refine m_E.icf ((m_neI (by omega) (by omega)).trans (decide_eq_false (fun z => z rfl))) rfl ?_
        refine m_E.run 1 (pc1 := 23) (ls1 := [some _, some _, some _]) (st1 := [_]) rfl ?_
        exact m_E.iret rfl (Opm.same H ok R)
      · skip
        have ev : b_swap (w_now W) (nI i) (nI j) = (nI ((c_cards (w_now W)).getD j 0), some (c_xch (w_now W) i j)) := by rw [b_swap, if_pos ⟨ex, ey⟩, if_neg (fun z => e (m_inj (by omega) (by omega) z)), m_cl (by omega), m_cl (by omega)]
        rw [ev]
        refine m_E.ict ((m_neI (by omega) (by omega)).trans (decide_eq_true e)) rfl ?_
        refine m_E.run 1 (pc1 := 25) (ls1 := [some _, some _, some _]) (st1 := [_]) rfl ?_
        obtain ⟨h1, M1, p1, H1, ok1, R1, c1⟩ := e_rec2 (d := d) H ok R
        refine m_E.on H.o (by decide) rfl rfl rfl (p1) ?_
        refine m_E.run 3 (pc1 := 31) (ls1 := [some _, some _, some _]) (st1 := [_, _, _]) rfl ?_
        obtain ⟨_, h2, p2, rfl, H2, c2⟩ := e_exchange (d := d + 1) H1 ok1.1 (rfl : nI i = nI i) hi (rfl : nI j = nI j) hj
        refine m_E.on H1.o (by decide) rfl rfl rfl (p2) ?_
        have E2 : Enc F (c_xch (w_now W) i j) (d_xch (d_state M1) i j) := Enc.xch (S := w_now W) R1.1 t hi hj
        refine m_E.run 1 (pc1 := 35) (ls1 := [some _, some _, some _]) (st1 := [_]) rfl ?_
        refine m_E.gf H2.o (by decide) rfl rfl ?_
        refine m_E.run 3 (pc1 := 42) (ls1 := [some _, some _, some _]) (st1 := [_, _]) rfl ?_
        dsimp only
        refine m_E.rs H2 E2.len (nI_add _ _) (by omega) ((E2.card hi).trans (by show nI ((g_xch (c_cards (w_now W)) i j).getD i 0) = _; rw [g_xch_get (by omega) (by omega), if_neg e, if_pos rfl])) rfl ?_
        exact m_E.iret rfl ⟨rfl, _, H2, ok1.state E2.len, R1.setS E2, c1.tr c2⟩
theorem e_mark {d : Nat} {n p : Nat} {is : Bool} {F : Nat → c_Sh} {W : c_W} {x y z : Int32} {M : c_M} {h : m_Hp} (H : Hmo h M) (ok : Okm M) (R : Rl F W M) (t : Tok n p (w_now W)) (hz : z = m_bI is) : ∃ r h', m_Call m_P (d + 3) 111 [.ref 61, .int x, .int y, .int z] (h) r h' ∧ (Opm F (w_res W (b_mark (w_now W) x y is).2) h (b_mark (w_now W) x y is).1) r h' := by
  refine m_call_ex (tab := tX6_mark) (nL := 4) rfl rfl ?_
  subst hz
  refine m_E.run 1 (pc1 := 1) (ls1 := [some _, some _, some _, some _]) (st1 := [_]) rfl ?_
  refine m_E.cv rfl rfl (e_isCell) ?_
  cases ex : g_in 24 x
  · skip
    have e : b_mark (w_now W) x y is = (-1, none) := by rw [b_mark, if_neg (by rw [ex]; simp)]
    rw [e]
    refine m_E.ift (rfl) rfl ?_
    refine m_E.run 1 (pc1 := 15) (ls1 := [some _, some _, some _, some _]) (st1 := [_]) rfl ?_
    exact m_E.iret rfl (Opm.same H ok R)
  · skip
    refine m_E.iff (rfl) rfl ?_
    refine m_E.run 1 (pc1 := 8) (ls1 := [some _, some _, some _, some _]) (st1 := [_]) rfl ?_
    refine m_E.cv rfl rfl (e_isMark) ?_
    cases ey : g_in 4 y
    · skip
      have e : b_mark (w_now W) x y is = (-1, none) := by rw [b_mark, if_neg (by rw [ey]; simp)]
      rw [e]
      refine m_E.iff (rfl) rfl ?_
      refine m_E.run 1 (pc1 := 15) (ls1 := [some _, some _, some _, some _]) (st1 := [_]) rfl ?_
      exact m_E.iret rfl (Opm.same H ok R)
    · skip
      obtain ⟨i, hi, rfl⟩ := g_in_of ex (by decide)
      obtain ⟨m, hm, rfl⟩ := g_in_of ey (by decide)
      have lb := t.bck i hi
      refine m_E.ift (rfl) rfl ?_
      refine m_E.run 1 (pc1 := 17) (ls1 := [some _, some _, some _, some _]) (st1 := [_]) rfl ?_
      refine m_E.gf H.o (by decide) rfl rfl ?_
      refine m_E.run 3 (pc1 := 24) (ls1 := [some _, some _, some _, some _]) (st1 := [_, _]) rfl ?_
      dsimp only
      refine m_E.rs H ok.1 (nI_add _ _) (by omega) (R.1.back hi) rfl ?_
      refine m_E.run 5 (pc1 := 30) (ls1 := [some _, some _, some _, some _]) (st1 := [_, _]) rfl ?_
      dsimp only
      rw [g_bit_shr _ lb _ hm]
      have mid : m_E (m_Call m_P (d + 2)) tX6_mark 38 [some (.ref 61), some (.int (nI i)), some (.int (nI m)), some (.int (m_bI is))] [.int (m_bI is), .int (m_bI (((c_backs (w_now W)).getD i 0).testBit m))] h (Opm F (w_res W (b_mark (w_now W) (nI i) (nI m) is).2) h (b_mark (w_now W) (nI i) (nI m) is).1) := by
        by_cases e : ((c_backs (w_now W)).getD i 0).testBit m = is
        · skip
          have ev : b_mark (w_now W) (nI i) (nI m) is = (-5, none) := by rw [b_mark, if_pos ⟨ex, ey⟩, m_cl (by omega), m_cl (by omega), if_pos e]
          rw [ev, e]
          refine m_E.icf (by cases is <;> decide) rfl ?_
          refine m_E.run 1 (pc1 := 43) (ls1 := [some _, some _, some _, some _]) (st1 := [_]) rfl ?_
          exact m_E.iret rfl (Opm.same H ok R)
        · skip
          have ev : b_mark (w_now W) (nI i) (nI m) is = (nI (g_mset ((c_backs (w_now W)).getD i 0) m is), some (c_mark (w_now W) i m is)) := by rw [b_mark, if_pos ⟨ex, ey⟩, m_cl (by omega), m_cl (by omega), if_neg e]
          rw [ev]
          have e2 : ((c_backs (w_now W)).getD i 0).testBit m = !is := by cases is <;> simp at e ⊢ <;> exact e
          rw [e2]
          refine m_E.ict (by cases is <;> decide) rfl ?_
          refine m_E.run 1 (pc1 := 45) (ls1 := [some _, some _, some _, some _]) (st1 := [_]) rfl ?_
          obtain ⟨h1, M1, p1, H1, ok1, R1, c1⟩ := e_rec2 (d := d) H ok R
          refine m_E.on H.o (by decide) rfl rfl rfl (p1) ?_
          refine m_E.run 4 (pc1 := 52) (ls1 := [some _, some _, some _, some _]) (st1 := [_, _, _, _]) rfl ?_
          obtain ⟨_, h2, p2, rfl, H2, c2⟩ := e_setMark (d := d + 1) (is := is) H1 ok1.1 (rfl : nI i = nI i) hi (rfl : nI m = nI m) hm rfl (R1.1.back (S := w_now W) hi) lb
          refine m_E.on H1.o (by decide) rfl rfl rfl (p2) ?_
          have E2 := Enc.mark (S := w_now W) (m := m) (is := is) R1.1 t hi
          refine m_E.run 1 (pc1 := 56) (ls1 := [some _, some _, some _, some _]) (st1 := [_]) rfl ?_
          refine m_E.gf H2.o (by decide) rfl rfl ?_
          refine m_E.run 3 (pc1 := 63) (ls1 := [some _, some _, some _, some _]) (st1 := [_, _]) rfl ?_
          dsimp only
          refine m_E.rs H2 E2.len (nI_add _ _) (by omega) ((g_sd (show 59 + i < (d_state M1).length by rw [ok1.1]; omega)).trans (if_pos rfl)) rfl ?_
          exact m_E.iret rfl ⟨rfl, _, H2, ok1.state E2.len, R1.setS E2, c1.tr c2⟩
      cases is
      · skip
        refine m_E.ift (rfl) rfl ?_
        refine m_E.run 1 (pc1 := 38) (ls1 := [some _, some _, some _, some _]) (st1 := [_, _]) rfl ?_
        exact mid
      · skip
        refine m_E.iff (rfl) rfl ?_
        refine m_E.run 2 (pc1 := 38) (ls1 := [some _, some _, some _, some _]) (st1 := [_, _]) rfl ?_
        exact mid
theorem e_lean {d : Nat} {n p : Nat} {F : Nat → c_Sh} {W : c_W} {x y : Int32} {M : c_M} {h : m_Hp} (H : Hmo h M) (ok : Okm M) (R : Rl F W M) (t : Tok n p (w_now W)) : ∃ r h', m_Call m_P (d + 3) 112 [.ref 61, .int x, .int y] (h) r h' ∧ (Opm F (w_res W (b_lean (w_now W) x y).2) h (b_lean (w_now W) x y).1) r h' := by
  refine m_call_ex (tab := tX6_lean) (nL := 4) rfl rfl ?_
  refine m_E.run 1 (pc1 := 1) (ls1 := [some _, some _, some _, none]) (st1 := [_]) rfl ?_
  refine m_E.cv rfl rfl (e_isCell) ?_
  cases ex : g_in 24 x
  · skip
    have e : b_lean (w_now W) x y = (-1, none) := by rw [b_lean, if_neg (by rw [ex]; simp)]
    rw [e]
    refine m_E.iff (rfl) rfl ?_
    refine m_E.run 1 (pc1 := 8) (ls1 := [some _, some _, some _, none]) (st1 := [_]) rfl ?_
    exact m_E.iret rfl (Opm.same H ok R)
  · skip
    obtain ⟨i, hi, rfl⟩ := g_in_of ex (by decide)
    refine m_E.ift (rfl) rfl ?_
    refine m_E.run 3 (pc1 := 14) (ls1 := [some _, some _, some _, none]) (st1 := [_, _, _]) rfl ?_
    refine m_E.cv rfl rfl (e_within) ?_
    by_cases ey : y < -9 ∨ ¬ y ≤ nI 9
    · skip
      have e : b_lean (w_now W) (nI i) y = (-2, none) := by rw [b_lean, if_pos ex, if_pos ey]
      have ez : w_in (-9) (nI 9) y = false := by rw [w_in]; rcases ey with z | z; rw [decide_eq_true z]; rfl; rw [decide_eq_true (Int32.not_le.mp z), Bool.not_true, Bool.and_false]
      rw [e, ez]
      refine m_E.iff (rfl) rfl ?_
      refine m_E.run 1 (pc1 := 22) (ls1 := [some _, some _, some _, none]) (st1 := [_]) rfl ?_
      exact m_E.iret rfl (Opm.same H ok R)
    · skip
      have ez : w_in (-9) (nI 9) y = true := by rw [w_in, decide_eq_false (fun z => ey (Or.inl z)), decide_eq_false (fun z => ey (Or.inr (Int32.not_le.mpr z)))]; rfl
      rw [ez]
      refine m_E.ift (rfl) rfl ?_
      refine m_E.run 1 (pc1 := 24) (ls1 := [some _, some _, some _, none]) (st1 := [_]) rfl ?_
      refine m_E.cv rfl rfl (e_isCourt rfl (show i < 100 by omega)) ?_
      by_cases ec : 3 ≤ i % 6
      · skip
        rw [decide_eq_true ec]
        refine m_E.ift (rfl) rfl ?_
        refine m_E.run 1 (pc1 := 34) (ls1 := [some _, some _, some _, none]) (st1 := [_]) rfl ?_
        refine m_E.gf H.o (by decide) rfl rfl ?_
        refine m_E.run 3 (pc1 := 41) (ls1 := [some _, some _, some _, none]) (st1 := [_, _]) rfl ?_
        dsimp only
        refine m_E.rs H ok.1 (nI_add _ _) (by omega) (R.1.lean hi) rfl ?_
        refine m_E.run 3 (pc1 := 45) (ls1 := [some _, some _, some _, some _]) (st1 := [_, _]) rfl ?_
        by_cases ev : (c_leans (w_now W)).getD i 0 = y
        · skip
          have e : b_lean (w_now W) (nI i) y = (-5, none) := by rw [b_lean, if_pos ex, if_neg ey, m_cl (by omega), if_pos ec, if_pos ev]
          rw [e, ev]
          refine m_E.icf (by rw [show (y == y) = true from decide_eq_true rfl]; rfl) rfl ?_
          refine m_E.run 1 (pc1 := 50) (ls1 := [some _, some _, some _, some _]) (st1 := [_]) rfl ?_
          exact m_E.iret rfl (Opm.same H ok R)
        · skip
          have e : b_lean (w_now W) (nI i) y = ((c_leans (w_now W)).getD i 0 + nI 100, some (c_setLeans (w_now W) ((c_leans (w_now W)).set i y))) := by rw [b_lean, if_pos ex, if_neg ey, m_cl (by omega), if_pos ec, if_neg ev]
          rw [e]
          refine m_E.ict (by rw [beq_eq_false_iff_ne.mpr ev]; rfl) rfl ?_
          refine m_E.run 1 (pc1 := 52) (ls1 := [some _, some _, some _, some _]) (st1 := [_]) rfl ?_
          obtain ⟨h1, M1, p1, H1, ok1, R1, c1⟩ := e_rec2 (d := d) H ok R
          refine m_E.on H.o (by decide) rfl rfl rfl (p1) ?_
          refine m_E.run 1 (pc1 := 56) (ls1 := [some _, some _, some _, some _]) (st1 := [_]) rfl ?_
          refine m_E.gf H1.o (by decide) rfl rfl ?_
          refine m_E.run 4 (pc1 := 64) (ls1 := [some _, some _, some _, some _]) (st1 := [_, _, _]) rfl ?_
          dsimp only
          refine m_E.ws H1 ok1.1 (nI_add _ _) (by omega) rfl (fun h2 H2 c2 => ?_)
          have E2 := Enc.setlean (S := w_now W) (y := y) R1.1 t hi
          refine m_E.run 3 (pc1 := 69) (ls1 := [some _, some _, some _, some _]) (st1 := [_]) rfl ?_
          dsimp only
          exact m_E.iret rfl ⟨rfl, _, H2, ok1.state E2.len, R1.setS E2, c1.tr c2⟩
      · skip
        have e : b_lean (w_now W) (nI i) y = (-4, none) := by rw [b_lean, if_pos ex, if_neg ey, m_cl (by omega), if_neg ec]
        rw [e, decide_eq_false ec]
        refine m_E.iff (rfl) rfl ?_
        refine m_E.run 1 (pc1 := 32) (ls1 := [some _, some _, some _, none]) (st1 := [_]) rfl ?_
        exact m_E.iret rfl (Opm.same H ok R)
theorem e_set {d : Nat} {n p : Nat} {F : Nat → c_Sh} {W : c_W} {x y : Int32} {M : c_M} {h : m_Hp} (H : Hmo h M) (ok : Okm M) (R : Rl F W M) (t : Tok n p (w_now W)) : ∃ r h', m_Call m_P (d + 3) 115 [.ref 61, .int x, .int y] (h) r h' ∧ (Opm F (w_res W (b_set (w_now W) x y).2) h (b_set (w_now W) x y).1) r h' := by
  refine m_call_ex (tab := tX6_set) (nL := 4) rfl rfl ?_
  refine m_E.run 3 (pc1 := 3) (ls1 := [some _, some _, some _, none]) (st1 := [_, _, _]) rfl ?_
  refine m_E.cv rfl rfl (e_within) ?_
  rw [show w_in (nI 0) (nI 3) x = g_in 4 x from w_in_k (n := 4) (by decide) (by decide)]
  cases ex : g_in 4 x
  · skip
    have e : b_set (w_now W) x y = (-2, none) := by rw [b_set, if_neg (by rw [ex]; simp)]
    rw [e]
    refine m_E.ift (rfl) rfl ?_
    refine m_E.run 1 (pc1 := 26) (ls1 := [some _, some _, some _, none]) (st1 := [_]) rfl ?_
    exact m_E.iret rfl (Opm.same H ok R)
  · skip
    obtain ⟨i, hi, rfl⟩ := g_in_of ex (by decide)
    refine m_E.iff (rfl) rfl ?_
    refine m_E.run 2 (pc1 := 11) (ls1 := [some _, some _, some _, none]) (st1 := [_, _]) rfl ?_
    refine m_E.cv rfl rfl (e_leastOf rfl hi) ?_
    refine m_E.run 1 (pc1 := 15) (ls1 := [some _, some _, some _, none]) (st1 := [_, _, _]) rfl ?_
    refine m_E.cv rfl rfl (e_mostOf rfl hi) ?_
    refine m_E.cv rfl rfl (e_within) ?_
    by_cases ey : ¬ y < nI (b_least i) ∧ y ≤ nI (b_most i)
    · skip
      have ez : w_in (nI (b_least i)) (nI (b_most i)) y = true := by rw [w_in, decide_eq_false ey.1, decide_eq_false (Int32.not_lt.mpr ey.2)]; rfl
      rw [ez]
      refine m_E.ift (rfl) rfl ?_
      refine m_E.run 1 (pc1 := 28) (ls1 := [some _, some _, some _, none]) (st1 := [_]) rfl ?_
      refine m_E.gf H.o (by decide) rfl rfl ?_
      refine m_E.run 3 (pc1 := 34) (ls1 := [some _, some _, some _, none]) (st1 := [_, _]) rfl ?_
      dsimp only
      refine m_E.rs H ok.1 (j := i) ((nI_add _ _).trans (by rw [Nat.zero_add])) (by omega) (R.1.set hi) rfl ?_
      refine m_E.run 3 (pc1 := 38) (ls1 := [some _, some _, some _, some _]) (st1 := [_, _]) rfl ?_
      by_cases ev : nI ((c_settings (w_now W)).getD i 0) = y
      · skip
        have e : b_set (w_now W) (nI i) y = (-5, none) := by rw [b_set, m_cl (by omega), if_pos ⟨ex, ey⟩, if_pos ev]
        rw [e, ev]
        refine m_E.icf (by rw [show (y == y) = true from decide_eq_true rfl]; rfl) rfl ?_
        refine m_E.run 1 (pc1 := 43) (ls1 := [some _, some _, some _, some _]) (st1 := [_]) rfl ?_
        exact m_E.iret rfl (Opm.same H ok R)
      · skip
        have e : b_set (w_now W) (nI i) y = (nI ((c_settings (w_now W)).getD i 0), some (c_setSettings (w_now W) ((c_settings (w_now W)).set i y.toNatClampNeg))) := by rw [b_set, m_cl (by omega), if_pos ⟨ex, ey⟩, if_neg ev]
        rw [e]
        have lb := b_bounds i hi
        obtain ⟨v, rfl, v1, v2⟩ := m_rng lb.2.1 ey.1 ey.2 lb.1
        refine m_E.ict (by rw [beq_eq_false_iff_ne.mpr ev]; rfl) rfl ?_
        refine m_E.run 1 (pc1 := 45) (ls1 := [some _, some _, some _, some _]) (st1 := [_]) rfl ?_
        obtain ⟨h1, M1, p1, H1, ok1, R1, c1⟩ := e_rec2 (d := d) H ok R
        refine m_E.on H.o (by decide) rfl rfl rfl (p1) ?_
        refine m_E.run 1 (pc1 := 49) (ls1 := [some _, some _, some _, some _]) (st1 := [_]) rfl ?_
        refine m_E.gf H1.o (by decide) rfl rfl ?_
        refine m_E.run 4 (pc1 := 56) (ls1 := [some _, some _, some _, some _]) (st1 := [_, _, _]) rfl ?_
        dsimp only
        refine m_E.ws H1 ok1.1 (j := i) ((nI_add _ _).trans (by rw [Nat.zero_add])) (by omega) rfl (fun h2 H2 c2 => ?_)
        have E2 := Enc.setset (S := w_now W) (v := v) R1.1 t hi
        rw [m_cl (show v < 2 ^ 31 by omega)]
        refine m_E.run 1 (pc1 := 58) (ls1 := [some _, some _, some _, some _]) (st1 := [_]) rfl ?_
        exact m_E.iret rfl ⟨rfl, _, H2, ok1.state E2.len, R1.setS E2, c1.tr c2⟩
    · skip
      have e : b_set (w_now W) (nI i) y = (-2, none) := by rw [b_set, m_cl (by omega), if_neg (fun z => ey z.2)]
      have ez : w_in (nI (b_least i)) (nI (b_most i)) y = false := by rw [← Bool.not_eq_true]; intro z; rw [w_in, Bool.and_eq_true] at z; exact ey ⟨by simpa using z.1, by simpa using z.2⟩
      rw [e, ez]
      refine m_E.iff (rfl) rfl ?_
      refine m_E.run 1 (pc1 := 26) (ls1 := [some _, some _, some _, none]) (st1 := [_]) rfl ?_
      exact m_E.iret rfl (Opm.same H ok R)
