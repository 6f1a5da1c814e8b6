/-! what the model tells -/
theorem m_has1 {S : c_St} (h : c_fr S ≠ none) : (if c_fr S = none then nI 0 else nI 1) = nI 1 := if_neg h
theorem m_has0 {S : c_St} (h : c_fr S = none) : (if c_fr S = none then nI 0 else nI 1) = nI 0 := if_pos h
theorem e_block {d : Nat} {F : Nat → c_Sh} {S : c_St} {x y : Int32} {M : c_M} {h : m_Hp} (H : Hmo h M) (E : Enc F S (d_state M)) : m_Call m_P (d + 3) 150 [.ref 61, .int x, .int y] (h) (some (.int (r_block S x y))) (h) := by
  refine m_call_of (tab := tX6_block) (nL := 3) rfl rfl ?_
  refine m_E.run 1 (pc1 := 1) (ls1 := [some _, some _, some _]) (st1 := [_]) rfl ?_
  refine m_E.cv rfl rfl (e_isCell) ?_
  cases ex : g_in 24 x
  · skip
    refine m_E.iff (rfl) rfl ?_
    rw [r_block, if_neg (by rw [ex]; decide)]
    refine m_E.run 1 (pc1 := 8) (ls1 := [some _, some _, some _]) (st1 := [_]) rfl ?_
    exact m_E.iret rfl ⟨rfl, rfl⟩
  · skip
    obtain ⟨i, hi, rfl⟩ := g_in_of ex (by decide)
    rw [r_block, if_pos ex, m_cl (by omega)]
    refine m_E.ift (rfl) rfl ?_
    refine m_E.run 1 (pc1 := 10) (ls1 := [some _, some _, some _]) (st1 := [_]) rfl ?_
    by_cases e0 : y = nI 0
    · skip
      rw [if_pos e0]
      refine m_E.iff (by rw [e0]; rfl) rfl ?_
      refine m_E.run 1 (pc1 := 14) (ls1 := [some _, some _, some _]) (st1 := [_]) rfl ?_
      refine m_E.gf H.o (by decide) rfl rfl ?_
      refine m_E.run 3 (pc1 := 21) (ls1 := [some _, some _, some _]) (st1 := [_, _]) rfl ?_
      dsimp only
      refine m_E.rs H E.len (nI_add _ _) (by omega) (E.card hi) rfl ?_
      refine m_E.run 1 (pc1 := 44) (ls1 := [some _, some _, some _]) (st1 := [_]) rfl ?_
      exact m_E.iret rfl ⟨rfl, rfl⟩
    · skip
      rw [if_neg e0]
      refine m_E.ift (by show (!(y == nI 0)) = true; rw [beq_eq_false_iff_ne.mpr e0]; rfl) rfl ?_
      refine m_E.run 2 (pc1 := 27) (ls1 := [some _, some _, some _]) (st1 := [_, _]) rfl ?_
      by_cases e1 : y = nI 1
      · skip
        rw [if_pos e1]
        refine m_E.icf (by rw [e1]; rfl) rfl ?_
        refine m_E.run 1 (pc1 := 31) (ls1 := [some _, some _, some _]) (st1 := [_]) rfl ?_
        refine m_E.gf H.o (by decide) rfl rfl ?_
        refine m_E.run 3 (pc1 := 38) (ls1 := [some _, some _, some _]) (st1 := [_, _]) rfl ?_
        dsimp only
        refine m_E.rs H E.len (nI_add _ _) (by omega) (E.back hi) rfl ?_
        refine m_E.run 1 (pc1 := 44) (ls1 := [some _, some _, some _]) (st1 := [_]) rfl ?_
        exact m_E.iret rfl ⟨rfl, rfl⟩
      · skip
        rw [if_neg e1]
        refine m_E.ict (by rw [beq_eq_false_iff_ne.mpr e1]; rfl) rfl ?_
        refine m_E.run 1 (pc1 := 44) (ls1 := [some _, some _, some _]) (st1 := [_]) rfl ?_
        exact m_E.iret rfl ⟨rfl, rfl⟩
theorem e_cardOf {d : Nat} {n p : Nat} {F : Nat → c_Sh} {S : c_St} {x y : Int32} {M : c_M} {h : m_Hp} (H : Hmo h M) (E : Enc F S (d_state M)) (t : Tok n p S) : m_Call m_P (d + 3) 153 [.ref 61, .int x, .int y] (h) (some (.int (r_cardOf F S x y))) (h) := by
  refine m_call_of (tab := tX6_cardOf) (nL := 3) rfl rfl ?_
  refine m_E.run 1 (pc1 := 1) (ls1 := [some _, some _, some _]) (st1 := [_]) rfl ?_
  refine m_E.cv rfl rfl (e_isCell) ?_
  cases ex : g_in 24 x
  · skip
    refine m_E.iff (rfl) rfl ?_
    rw [r_cardOf, if_neg (by rw [ex]; decide)]
    refine m_E.run 1 (pc1 := 8) (ls1 := [some _, some _, some _]) (st1 := [_]) rfl ?_
    exact m_E.iret rfl ⟨rfl, rfl⟩
  · skip
    obtain ⟨i, hi, rfl⟩ := g_in_of ex (by decide)
    rw [r_cardOf, if_pos ex, m_cl (by omega)]
    refine m_E.ift (rfl) rfl ?_
    refine m_E.run 1 (pc1 := 10) (ls1 := [some _, some _, some _]) (st1 := [_]) rfl ?_
    by_cases e0 : y = nI 0
    · skip
      rw [if_pos e0]
      subst e0
      refine m_E.tsw (t := 40) (by decide) rfl ?_
      refine m_E.run 2 (pc1 := 42) (ls1 := [some _, some _, some _]) (st1 := [_, _]) rfl ?_
      refine m_E.ov H.o (by decide) rfl rfl rfl (e_cellOf H E t rfl hi) ?_
      exact m_E.iret rfl ⟨rfl, rfl⟩
    · skip
      rw [if_neg e0]
      by_cases e1 : y = nI 1
      · skip
        rw [if_pos e1]
        subst e1
        refine m_E.tsw (t := 46) (by decide) rfl ?_
        refine m_E.run 1 (pc1 := 47) (ls1 := [some _, some _, some _]) (st1 := [_]) rfl ?_
        refine m_E.gf H.o (by decide) rfl rfl ?_
        refine m_E.run 3 (pc1 := 54) (ls1 := [some _, some _, some _]) (st1 := [_, _]) rfl ?_
        dsimp only
        refine m_E.rs H E.len (nI_add _ _) (by omega) (E.lean hi) rfl ?_
        refine m_E.run 2 (pc1 := 58) (ls1 := [some _, some _, some _]) (st1 := [_]) rfl ?_
        dsimp only
        exact m_E.iret rfl ⟨rfl, rfl⟩
      · skip
        rw [if_neg e1]
        by_cases e2 : y = nI 2
        · skip
          rw [if_pos e2]
          subst e2
          refine m_E.tsw (t := 59) (by decide) rfl ?_
          refine m_E.run 2 (pc1 := 61) (ls1 := [some _, some _, some _]) (st1 := [_, _]) rfl ?_
          refine m_E.ov H.o (by decide) rfl rfl rfl (e_placeOf H E t rfl hi) ?_
          exact m_E.iret rfl ⟨rfl, rfl⟩
        · skip
          rw [if_neg e2]
          by_cases e3 : y = nI 3
          · skip
            rw [if_pos e3]
            subst e3
            refine m_E.tsw (t := 65) (by decide) rfl ?_
            refine m_E.run 1 (pc1 := 66) (ls1 := [some _, some _, some _]) (st1 := [_]) rfl ?_
            refine m_E.gf H.o (by decide) rfl rfl ?_
            refine m_E.run 1 (pc1 := 71) (ls1 := [some _, some _, some _]) (st1 := [_, _]) rfl ?_
            refine m_E.rs H E.len rfl (by omega) (E.has) rfl ?_
            rcases ef : c_fr S with _ | k
            · skip
              rw [r_marks, ef]
              refine m_E.run 1 (pc1 := 73) (ls1 := [some _, some _, some _]) (st1 := [_, _]) rfl ?_
              refine m_E.ict (rfl) rfl ?_
              refine m_E.run 1 (pc1 := 91) (ls1 := [some _, some _, some _]) (st1 := [_]) rfl ?_
              exact m_E.iret rfl ⟨rfl, rfl⟩
            · skip
              have hf : c_fr S ≠ none := by rw [ef]; intro z; cases z
              have es := E.pmc hf hi
              rw [c_shf_some ef] at es
              rw [r_marks, ef]
              refine m_E.run 1 (pc1 := 73) (ls1 := [some _, some _, some _]) (st1 := [_, _]) rfl ?_
              refine m_E.icf (rfl) rfl ?_
              refine m_E.run 1 (pc1 := 77) (ls1 := [some _, some _, some _]) (st1 := [_]) rfl ?_
              refine m_E.gf H.o (by decide) rfl rfl ?_
              refine m_E.run 3 (pc1 := 85) (ls1 := [some _, some _, some _]) (st1 := [_, _]) rfl ?_
              dsimp only
              refine m_E.rs H E.len (nI_add _ _) (by omega) (es) rfl ?_
              refine m_E.run 1 (pc1 := 91) (ls1 := [some _, some _, some _]) (st1 := [_]) rfl ?_
              exact m_E.iret rfl ⟨rfl, rfl⟩
          · skip
            rw [if_neg e3]
            refine m_E.tsw (t := 92) (if_pos (m_sw4 (n := 4) (by decide) (fun k hk => by match k, hk with | 0, _ => exact e0 | 1, _ => exact e1 | 2, _ => exact e2 | 3, _ => exact e3))) rfl ?_
            refine m_E.run 1 (pc1 := 94) (ls1 := [some _, some _, some _]) (st1 := [_]) rfl ?_
            exact m_E.iret rfl ⟨rfl, rfl⟩
theorem m_in2 {z : Int32} : w_in (nI 0) (nI 1) z = g_in 2 z := w_in_k (n := 2) (by decide) (by decide)
theorem e_sheet {d : Nat} {n p : Nat} {F : Nat → c_Sh} {S : c_St} {x y z : Int32} {M : c_M} {h : m_Hp} (H : Hmo h M) (E : Enc F S (d_state M)) (t : Tok n p S) : m_Call m_P (d + 3) 154 [.ref 61, .int x, .int y, .int z] (h) (some (.int (r_sheet F S x y z))) (h) := by
  refine m_call_of (tab := tX6_sheet) (nL := 4) rfl rfl ?_
  have lp := t.1.2.2.2.2.2.2.2.2.2.2.2.1
  refine m_E.run 3 (pc1 := 3) (ls1 := [some _, some _, some _, some _]) (st1 := [_, _, _]) rfl ?_
  refine m_E.gf H.o (by decide) rfl rfl ?_
  refine m_E.run 1 (pc1 := 7) (ls1 := [some _, some _, some _, some _]) (st1 := [_, _, _, _]) rfl ?_
  refine m_E.rs H E.len rfl (by omega) (E.pil) rfl ?_
  refine m_E.run 2 (pc1 := 10) (ls1 := [some _, some _, some _, some _]) (st1 := [_, _, _]) rfl ?_
  dsimp only
  refine m_E.cv rfl rfl (e_within) ?_
  rw [w_in_0 (show c_piled S < 2 ^ 30 by omega)]
  cases ex : g_in (c_piled S) x
  · skip
    refine m_E.ift (rfl) rfl ?_
    rw [r_sheet, if_neg (by rw [ex]; intro z; cases z.1)]
    refine m_E.run 1 (pc1 := 24) (ls1 := [some _, some _, some _, some _]) (st1 := [_]) rfl ?_
    exact m_E.iret rfl ⟨rfl, rfl⟩
  · skip
    obtain ⟨j, hj, rfl⟩ := g_in_of ex (by omega)
    refine m_E.iff (rfl) rfl ?_
    refine m_E.run 1 (pc1 := 17) (ls1 := [some _, some _, some _, some _]) (st1 := [_]) rfl ?_
    refine m_E.cv rfl rfl (e_isCell) ?_
    cases ey : g_in 24 y
    · skip
      refine m_E.iff (rfl) rfl ?_
      rw [r_sheet, if_neg (by rw [ey]; intro z; cases z.2)]
      refine m_E.run 1 (pc1 := 24) (ls1 := [some _, some _, some _, some _]) (st1 := [_]) rfl ?_
      exact m_E.iret rfl ⟨rfl, rfl⟩
    · skip
      obtain ⟨c, hc, rfl⟩ := g_in_of ey (by decide)
      obtain ⟨i, hi, et⟩ := t.2.2.1.2.1 (c_piled S - 1 - j) (by omega)
      have q := E.pile (show c_piled S - 1 - j < c_piled S by omega) et hc
      rw [r_sheet, if_pos ⟨ex, ey⟩, m_cl (by omega), m_cl (by omega), et]
      dsimp only
      refine m_E.ift (rfl) rfl ?_
      refine m_E.run 3 (pc1 := 28) (ls1 := [some _, some _, some _, some _]) (st1 := [_, _, _]) rfl ?_
      refine m_E.cv rfl rfl (e_within) ?_
      rw [m_in2]
      have tail : ∀ w, w < 2 → z = nI w → m_E (m_Call m_P (d + 2)) tX6_sheet 37 [some (.ref 61), some (.int (nI j)), some (.int (nI c)), some (.int z)] [] h (fun r2 h2 => r2 = some (.int ((d_state M).getD (179 + 72 * (c_piled S - 1 - j) + 48 * w + c) 0)) ∧ h2 = h) := by
        intro w hw ez
        subst ez
        refine m_E.run 1 (pc1 := 38) (ls1 := [some _, some _, some _, some _]) (st1 := [_]) rfl ?_
        refine m_E.gf H.o (by decide) rfl rfl ?_
        refine m_E.run 1 (pc1 := 42) (ls1 := [some _, some _, some _, some _]) (st1 := [_, _]) rfl ?_
        refine m_E.gf H.o (by decide) rfl rfl ?_
        refine m_E.run 1 (pc1 := 46) (ls1 := [some _, some _, some _, some _]) (st1 := [_, _, _]) rfl ?_
        refine m_E.rs H E.len rfl (by omega) (E.pil) rfl ?_
        refine m_E.run 4 (pc1 := 51) (ls1 := [some _, some _, some _, some _]) (st1 := [_, _]) rfl ?_
        dsimp only
        rw [pk_sub (show 1 ≤ c_piled S by omega), pk_sub (show j ≤ c_piled S - 1 by omega)]
        refine m_E.cv rfl rfl (e_sheetAt rfl) ?_
        refine m_E.run 6 (pc1 := 61) (ls1 := [some _, some _, some _, some _]) (st1 := [_, _]) rfl ?_
        dsimp only
        rw [pk_mul, nI_add]
        refine m_E.rs H E.len (nI_add _ _) (by omega) (rfl) rfl ?_
        exact m_E.iret rfl ⟨rfl, rfl⟩
      by_cases e0 : z = nI 0
      · skip
        have ez : g_in 2 z = true := by rw [e0]; decide
        rw [ez, if_pos e0]
        refine m_E.ift (rfl) rfl ?_
        have k := tail 0 (by decide) e0
        rw [show 179 + 72 * (c_piled S - 1 - j) + 48 * 0 + c = 179 + 72 * (c_piled S - 1 - j) + c by omega, q.1] at k
        exact k
      · skip
        rw [if_neg e0]
        by_cases e1 : z = nI 1
        · skip
          have ez : g_in 2 z = true := by rw [e1]; decide
          rw [ez, if_pos e1]
          refine m_E.ift (rfl) rfl ?_
          have k := tail 1 (by decide) e1
          rw [show 179 + 72 * (c_piled S - 1 - j) + 48 * 1 + c = 227 + 72 * (c_piled S - 1 - j) + c by omega, q.2.2] at k
          exact k
        · skip
          rw [if_neg e1]
          have ez : g_in 2 z = false := by rw [← Bool.not_eq_true]; intro q; obtain ⟨w, hw, rfl⟩ := g_in_of q (by decide); match w, hw with | 0, _ => exact e0 rfl | 1, _ => exact e1 rfl
          rw [ez]
          refine m_E.iff (rfl) rfl ?_
          refine m_E.run 1 (pc1 := 36) (ls1 := [some _, some _, some _, some _]) (st1 := [_]) rfl ?_
          exact m_E.iret rfl ⟨rfl, rfl⟩
theorem e_pack {d : Nat} {n p : Nat} {F : Nat → c_Sh} {S : c_St} {x y : Int32} {M : c_M} {h : m_Hp} (H : Hmo h M) (E : Enc F S (d_state M)) (t : Tok n p S) (G : Gsh n F) : m_Call m_P (d + 4) 155 [.ref 61, .int x, .int y] (h) (some (.int (r_pack F S x y))) (h) := by
  refine m_call_of (tab := tX6_pack) (nL := 3) rfl rfl ?_
  have ll : c_lf S ≤ 24 := g_left_le _ _
  refine m_E.run 3 (pc1 := 3) (ls1 := [some _, some _, some _]) (st1 := [_, _, _]) rfl ?_
  refine m_E.gf H.o (by decide) rfl rfl ?_
  refine m_E.run 1 (pc1 := 8) (ls1 := [some _, some _, some _]) (st1 := [_, _, _, _]) rfl ?_
  refine m_E.rs H E.len rfl (by omega) (E.lf) rfl ?_
  refine m_E.run 2 (pc1 := 11) (ls1 := [some _, some _, some _]) (st1 := [_, _, _]) rfl ?_
  dsimp only
  refine m_E.cv rfl rfl (e_within) ?_
  rw [w_in_0 (show c_lf S < 2 ^ 30 by omega)]
  cases ex : g_in (c_lf S) x
  · skip
    refine m_E.iff (rfl) rfl ?_
    rw [r_pack, if_neg (by rw [ex]; decide)]
    refine m_E.run 1 (pc1 := 18) (ls1 := [some _, some _, some _]) (st1 := [_]) rfl ?_
    exact m_E.iret rfl ⟨rfl, rfl⟩
  · skip
    obtain ⟨i, hi, rfl⟩ := g_in_of ex (by omega)
    obtain ⟨hf, h2⟩ := lf_lt t hi
    have lo := t.ord _ h2
    have lk := q_mk_lt t G hi
    have lq : q_can F S i ≤ 24 := Nat.le_trans (g_cnt_le _ _) (Nat.sub_le _ _)
    rw [r_pack, if_pos ex, m_cl (by omega)]
    refine m_E.ift (rfl) rfl ?_
    refine m_E.run 1 (pc1 := 20) (ls1 := [some _, some _, some _]) (st1 := [_]) rfl ?_
    cases ey : g_in 5 y
    · skip
      rw [if_neg (by decide)]
      refine m_E.tsw (t := 107) (if_pos (m_out (by decide) ey)) rfl ?_
      refine m_E.run 1 (pc1 := 109) (ls1 := [some _, some _, some _]) (st1 := [_]) rfl ?_
      exact m_E.iret rfl ⟨rfl, rfl⟩
    · skip
      obtain ⟨w, hw, rfl⟩ := g_in_of ey (by decide)
      rw [if_pos rfl, m_cl (by omega)]
      have h5 : w = 0 ∨ w = 1 ∨ w = 2 ∨ w = 3 ∨ w = 4 := by omega
      rcases h5 with rfl | rfl | rfl | rfl | rfl
      · skip
        refine m_E.tsw (t := 56) (by decide) rfl ?_
        refine m_E.run 1 (pc1 := 57) (ls1 := [some _, some _, some _]) (st1 := [_]) rfl ?_
        refine m_E.gf H.o (by decide) rfl rfl ?_
        refine m_E.run 3 (pc1 := 64) (ls1 := [some _, some _, some _]) (st1 := [_, _]) rfl ?_
        dsimp only
        refine m_E.rs H E.len (nI_add _ _) (by omega) (E.ord hi) rfl ?_
        exact m_E.iret rfl ⟨rfl, rfl⟩
      · skip
        refine m_E.tsw (t := 66) (by decide) rfl ?_
        refine m_E.run 2 (pc1 := 68) (ls1 := [some _, some _, some _]) (st1 := [_, _]) rfl ?_
        refine m_E.ov H.o (by decide) rfl rfl rfl (e_marksAt H E t rfl hi) ?_
        exact m_E.iret rfl ⟨rfl, rfl⟩
      · skip
        refine m_E.tsw (t := 72) (by decide) rfl ?_
        refine m_E.run 3 (pc1 := 75) (ls1 := [some _, some _, some _]) (st1 := [_, _, _]) rfl ?_
        refine m_E.ov H.o (by decide) rfl rfl rfl (e_marksAt H E t rfl hi) ?_
        refine m_E.ov H.o (by decide) rfl rfl rfl (e_alike H E t G hf rfl lk) ?_
        rw [q_al_can t hf]
        exact m_E.iret rfl ⟨rfl, rfl⟩
      · skip
        refine m_E.tsw (t := 82) (by decide) rfl ?_
        refine m_E.run 2 (pc1 := 84) (ls1 := [some _, some _, some _]) (st1 := [_, _]) rfl ?_
        refine m_E.ov H.o (by decide) rfl rfl rfl (e_guess H E t G rfl hi) ?_
        exact m_E.iret rfl ⟨rfl, rfl⟩
      · skip
        refine m_E.tsw (t := 88) (by decide) rfl ?_
        refine m_E.run 3 (pc1 := 91) (ls1 := [some _, some _, some _]) (st1 := [_, _, _]) rfl ?_
        refine m_E.ov H.o (by decide) rfl rfl rfl (e_marksAt H E t rfl hi) ?_
        refine m_E.ov H.o (by decide) rfl rfl rfl (e_alike H E t G hf rfl lk) ?_
        rw [q_al_can t hf]
        refine m_E.run 1 (pc1 := 98) (ls1 := [some _, some _, some _]) (st1 := [_, _]) rfl ?_
        by_cases e1 : q_can F S i = 1
        · skip
          refine m_E.icf (by rw [e1]; rfl) rfl ?_
          refine m_E.run 2 (pc1 := 106) (ls1 := [some _, some _, some _]) (st1 := [_]) rfl ?_
          exact m_E.iret rfl ⟨by show _ = some (Value.int (if q_can F S i = 1 then nI 1 else nI 0)); rw [if_pos e1], rfl⟩
        · skip
          refine m_E.ict (by rw [m_neI (by omega) (by omega)]; exact decide_eq_true e1) rfl ?_
          refine m_E.run 1 (pc1 := 106) (ls1 := [some _, some _, some _]) (st1 := [_]) rfl ?_
          exact m_E.iret rfl ⟨by show _ = some (Value.int (if q_can F S i = 1 then nI 1 else nI 0)); rw [if_neg e1], rfl⟩
theorem e_why {d : Nat} {n p : Nat} {F : Nat → c_Sh} {S : c_St} {M : c_M} {h : m_Hp} (H : Hmo h M) (E : Enc F S (d_state M)) (t : Tok n p S) (G : Gsh n F) : m_Call m_P (d + 4) 158 [.ref 61] (h) (some (.int (r_why F S))) (h) := by
  refine m_call_of (tab := tX6_why) (nL := 1) rfl rfl ?_
  refine m_E.run 1 (pc1 := 1) (ls1 := [some _]) (st1 := [_]) rfl ?_
  refine m_E.gf H.o (by decide) rfl rfl ?_
  refine m_E.run 1 (pc1 := 6) (ls1 := [some _]) (st1 := [_, _]) rfl ?_
  refine m_E.rs H E.len rfl (by omega) (E.has) rfl ?_
  rcases ef : c_fr S with _ | k
  · skip
    rw [r_why, ef]
    refine m_E.run 1 (pc1 := 8) (ls1 := [some _]) (st1 := [_, _]) rfl ?_
    refine m_E.ict (rfl) rfl ?_
    refine m_E.run 1 (pc1 := 20) (ls1 := [some _]) (st1 := [_]) rfl ?_
    exact m_E.iret rfl ⟨rfl, rfl⟩
  · skip
    rw [r_why, ef]
    refine m_E.run 1 (pc1 := 8) (ls1 := [some _]) (st1 := [_, _]) rfl ?_
    refine m_E.icf (rfl) rfl ?_
    refine m_E.run 1 (pc1 := 12) (ls1 := [some _]) (st1 := [_]) rfl ?_
    refine m_E.ov H.o (by decide) rfl rfl rfl (e_reason H E t G ef) ?_
    refine m_E.run 1 (pc1 := 20) (ls1 := [some _]) (st1 := [_]) rfl ?_
    exact m_E.iret rfl ⟨rfl, rfl⟩
/-- the model's counts, for one case each -/
theorem e_count {d : Nat} {n p : Nat} {F : Nat → c_Sh} {W : c_W} {y : Int32} {M : c_M} {h : m_Hp} (H : Hmo h M) (E : Enc F (w_now W) (d_state M)) (t : Tok n p (w_now W)) (G : Gsh n F) (hm : d_many M = w_size W) (hl : d_len M = x_len (w_text W)) : m_Call m_P (d + 4) 157 [.ref 61, .int y] (h) (some (.int (r_count F W y))) (h) := by
  refine m_call_of (tab := tX6_count) (nL := 2) rfl rfl ?_
  have ll : c_lf (w_now W) ≤ 24 := g_left_le _ _
  refine m_E.run 1 (pc1 := 1) (ls1 := [some _, some _]) (st1 := [_]) rfl ?_
  cases ey : g_in 18 y
  · skip
    rw [r_count, if_neg (by rw [ey]; decide)]
    refine m_E.tsw (t := 201) (if_pos (m_out (by decide) ey)) rfl ?_
    refine m_E.run 1 (pc1 := 203) (ls1 := [some _, some _]) (st1 := [_]) rfl ?_
    exact m_E.iret rfl ⟨rfl, rfl⟩
  · skip
    obtain ⟨w, hw, rfl⟩ := g_in_of ey (by decide)
    rw [r_count, if_pos ey, m_cl (by omega)]
    have h5 : w = 0 ∨ w = 1 ∨ w = 2 ∨ w = 3 ∨ w = 4 ∨ w = 5 ∨ w = 6 ∨ w = 7 ∨ w = 8 ∨ w = 9 ∨ w = 10 ∨ w = 11 ∨ w = 12 ∨ w = 13 ∨ w = 14 ∨ w = 15 ∨ w = 16 ∨ w = 17 := by omega
    rcases h5 with rfl | rfl | rfl | rfl | rfl | rfl | rfl | rfl | rfl | rfl | rfl | rfl | rfl | rfl | rfl | rfl | rfl | rfl
    · skip
      refine m_E.tsw (t := 88) (by decide) rfl ?_
      refine m_E.run 1 (pc1 := 89) (ls1 := [some _, some _]) (st1 := [_]) rfl ?_
      refine m_E.gf H.o (by decide) rfl rfl ?_
      refine m_E.run 1 (pc1 := 93) (ls1 := [some _, some _]) (st1 := [_, _]) rfl ?_
      refine m_E.rs H E.len rfl (by omega) (E.pil) rfl ?_
      exact m_E.iret rfl ⟨rfl, rfl⟩
    · skip
      refine m_E.tsw (t := 95) (by decide) rfl ?_
      refine m_E.run 1 (pc1 := 96) (ls1 := [some _, some _]) (st1 := [_]) rfl ?_
      refine m_E.gf H.o (by decide) rfl rfl ?_
      refine m_E.run 1 (pc1 := 100) (ls1 := [some _, some _]) (st1 := [_, _]) rfl ?_
      refine m_E.rs H E.len rfl (by omega) (E.prt) rfl ?_
      exact m_E.iret rfl ⟨rfl, rfl⟩
    · skip
      refine m_E.tsw (t := 102) (by decide) rfl ?_
      refine m_E.run 1 (pc1 := 103) (ls1 := [some _, some _]) (st1 := [_]) rfl ?_
      refine m_E.gf H.o (by decide) rfl rfl ?_
      refine m_E.run 1 (pc1 := 108) (ls1 := [some _, some _]) (st1 := [_, _]) rfl ?_
      refine m_E.rs H E.len rfl (by omega) (E.has) rfl ?_
      exact m_E.iret rfl ⟨rfl, rfl⟩
    · skip
      refine m_E.tsw (t := 110) (by decide) rfl ?_
      refine m_E.run 1 (pc1 := 111) (ls1 := [some _, some _]) (st1 := [_]) rfl ?_
      refine m_E.gf H.o (by decide) rfl rfl ?_
      refine m_E.run 1 (pc1 := 116) (ls1 := [some _, some _]) (st1 := [_, _]) rfl ?_
      refine m_E.rs H E.len rfl (by omega) (E.lf) rfl ?_
      exact m_E.iret rfl ⟨rfl, rfl⟩
    · skip
      refine m_E.tsw (t := 118) (by decide) rfl ?_
      refine m_E.run 1 (pc1 := 119) (ls1 := [some _, some _]) (st1 := [_]) rfl ?_
      refine m_E.gf H.o (by decide) rfl rfl ?_
      refine m_E.run 1 (pc1 := 124) (ls1 := [some _, some _]) (st1 := [_, _]) rfl ?_
      refine m_E.rs H E.len rfl (by omega) (E.has) rfl ?_
      rcases ef : c_fr (w_now W) with _ | k
      · skip
        have ed : c_dealt (w_now W) = 0 := t.2.2.2.2.2.1 ef
        refine m_E.run 1 (pc1 := 126) (ls1 := [some _, some _]) (st1 := [_, _]) rfl ?_
        refine m_E.ict (rfl) rfl ?_
        refine m_E.run 1 (pc1 := 143) (ls1 := [some _, some _]) (st1 := [_]) rfl ?_
        exact m_E.iret rfl ⟨by show _ = some (Value.int (nI (c_dealt (w_now W)))); rw [ed], rfl⟩
      · skip
        have ed := c_lf_eq t (by rw [ef]; intro z; cases z)
        refine m_E.run 1 (pc1 := 126) (ls1 := [some _, some _]) (st1 := [_, _]) rfl ?_
        refine m_E.icf (rfl) rfl ?_
        refine m_E.run 2 (pc1 := 132) (ls1 := [some _, some _]) (st1 := [_, _]) rfl ?_
        refine m_E.gf H.o (by decide) rfl rfl ?_
        refine m_E.run 1 (pc1 := 137) (ls1 := [some _, some _]) (st1 := [_, _, _]) rfl ?_
        refine m_E.rs H E.len rfl (by omega) (E.lf) rfl ?_
        refine m_E.run 2 (pc1 := 143) (ls1 := [some _, some _]) (st1 := [_]) rfl ?_
        dsimp only
        rw [pk_sub ll]
        exact m_E.iret rfl ⟨by show _ = some (Value.int (nI (c_dealt (w_now W)))); rw [show 24 - c_lf (w_now W) = c_dealt (w_now W) by omega], rfl⟩
    · skip
      refine m_E.tsw (t := 144) (by decide) rfl ?_
      refine m_E.run 1 (pc1 := 145) (ls1 := [some _, some _]) (st1 := [_]) rfl ?_
      refine m_E.ov H.o (by decide) rfl rfl rfl (e_known H E t G) ?_
      exact m_E.iret rfl ⟨rfl, rfl⟩
    · skip
      refine m_E.tsw (t := 149) (by decide) rfl ?_
      refine m_E.run 1 (pc1 := 150) (ls1 := [some _, some _]) (st1 := [_]) rfl ?_
      refine m_E.ov H.o (by decide) rfl rfl rfl (e_rightOnes H E t G) ?_
      exact m_E.iret rfl ⟨rfl, rfl⟩
    · skip
      refine m_E.tsw (t := 154) (by decide) rfl ?_
      refine m_E.run 1 (pc1 := 155) (ls1 := [some _, some _]) (st1 := [_]) rfl ?_
      refine m_E.gf H.o (by decide) rfl rfl ?_
      refine m_E.run 5 (pc1 := 165) (ls1 := [some _, some _]) (st1 := [_, _]) rfl ?_
      dsimp only
      refine m_E.rs H E.len (j := 8) (by decide) (by omega) E.sold rfl ?_
      exact m_E.iret rfl ⟨rfl, rfl⟩
    · skip
      refine m_E.tsw (t := 154) (by decide) rfl ?_
      refine m_E.run 1 (pc1 := 155) (ls1 := [some _, some _]) (st1 := [_]) rfl ?_
      refine m_E.gf H.o (by decide) rfl rfl ?_
      refine m_E.run 5 (pc1 := 165) (ls1 := [some _, some _]) (st1 := [_, _]) rfl ?_
      dsimp only
      refine m_E.rs H E.len (j := 9) (by decide) (by omega) E.pul rfl ?_
      exact m_E.iret rfl ⟨rfl, rfl⟩
    · skip
      refine m_E.tsw (t := 154) (by decide) rfl ?_
      refine m_E.run 1 (pc1 := 155) (ls1 := [some _, some _]) (st1 := [_]) rfl ?_
      refine m_E.gf H.o (by decide) rfl rfl ?_
      refine m_E.run 5 (pc1 := 165) (ls1 := [some _, some _]) (st1 := [_, _]) rfl ?_
      dsimp only
      refine m_E.rs H E.len (j := 10) (by decide) (by omega) E.coin rfl ?_
      exact m_E.iret rfl ⟨rfl, rfl⟩
    · skip
      refine m_E.tsw (t := 167) (by decide) rfl ?_
      refine m_E.run 1 (pc1 := 168) (ls1 := [some _, some _]) (st1 := [_]) rfl ?_
      refine m_E.ov H.o (by decide) rfl rfl rfl (e_marksOfBacks H E t) ?_
      exact m_E.iret rfl ⟨rfl, rfl⟩
    · skip
      refine m_E.tsw (t := 172) (by decide) rfl ?_
      refine m_E.run 2 (pc1 := 175) (ls1 := [some _, some _]) (st1 := [_, _]) rfl ?_
      refine m_E.ov H.o (by decide) rfl rfl rfl (e_leaning H E.len rfl (by decide) (fun k hk => E.lean hk) (E.set (k := 1) (by decide))) ?_
      exact m_E.iret rfl ⟨by show _ = some (Value.int (nI (g_beyond (c_leans (w_now W)) (nI ((c_settings (w_now W)).getD 1 0)) (c_leans (w_now W)).length))); rw [t.1.2.2.1], rfl⟩
    · skip
      refine m_E.tsw (t := 179) (by decide) rfl ?_
      refine m_E.run 1 (pc1 := 180) (ls1 := [some _, some _]) (st1 := [_]) rfl ?_
      refine m_E.gf H.o (by decide) rfl rfl ?_
      exact m_E.iret rfl ⟨by rw [hm]; rfl, rfl⟩
    · skip
      refine m_E.tsw (t := 184) (by decide) rfl ?_
      refine m_E.run 1 (pc1 := 185) (ls1 := [some _, some _]) (st1 := [_]) rfl ?_
      refine m_E.gf H.o (by decide) rfl rfl ?_
      exact m_E.iret rfl ⟨by rw [hl]; rfl, rfl⟩
    · skip
      refine m_E.tsw (t := 189) (by decide) rfl ?_
      refine m_E.run 1 (pc1 := 190) (ls1 := [some _, some _]) (st1 := [_]) rfl ?_
      refine m_E.gf H.o (by decide) rfl rfl ?_
      refine m_E.run 5 (pc1 := 199) (ls1 := [some _, some _]) (st1 := [_, _]) rfl ?_
      dsimp only
      refine m_E.rs H E.len (j := 0) (by decide) (by omega) (E.set (k := 0) (by decide)) rfl ?_
      exact m_E.iret rfl ⟨rfl, rfl⟩
    · skip
      refine m_E.tsw (t := 189) (by decide) rfl ?_
      refine m_E.run 1 (pc1 := 190) (ls1 := [some _, some _]) (st1 := [_]) rfl ?_
      refine m_E.gf H.o (by decide) rfl rfl ?_
      refine m_E.run 5 (pc1 := 199) (ls1 := [some _, some _]) (st1 := [_, _]) rfl ?_
      dsimp only
      refine m_E.rs H E.len (j := 1) (by decide) (by omega) (E.set (k := 1) (by decide)) rfl ?_
      exact m_E.iret rfl ⟨rfl, rfl⟩
    · skip
      refine m_E.tsw (t := 189) (by decide) rfl ?_
      refine m_E.run 1 (pc1 := 190) (ls1 := [some _, some _]) (st1 := [_]) rfl ?_
      refine m_E.gf H.o (by decide) rfl rfl ?_
      refine m_E.run 5 (pc1 := 199) (ls1 := [some _, some _]) (st1 := [_, _]) rfl ?_
      dsimp only
      refine m_E.rs H E.len (j := 2) (by decide) (by omega) (E.set (k := 2) (by decide)) rfl ?_
      exact m_E.iret rfl ⟨rfl, rfl⟩
    · skip
      refine m_E.tsw (t := 189) (by decide) rfl ?_
      refine m_E.run 1 (pc1 := 190) (ls1 := [some _, some _]) (st1 := [_]) rfl ?_
      refine m_E.gf H.o (by decide) rfl rfl ?_
      refine m_E.run 5 (pc1 := 199) (ls1 := [some _, some _]) (st1 := [_, _]) rfl ?_
      dsimp only
      refine m_E.rs H E.len (j := 3) (by decide) (by omega) (E.set (k := 3) (by decide)) rfl ?_
      exact m_E.iret rfl ⟨rfl, rfl⟩
