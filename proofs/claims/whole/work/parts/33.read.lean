/-! reading numbers -/
theorem x_sg_pos {X : c_Tx} {k : Nat} (h : x_sg X k ≠ 0) : k < x_len X := by
  by_cases e : k < x_len X
  · exact e
  · exact absurd (by rw [x_sg, if_neg e]) h
theorem c_take {d : Nat} {q c : Nat} {X : c_Tx} {x : Int32} {h : m_Hp} (H : Htx h q X) (ok : Okx X) (hx : x = nI c) (hc : c < 65536) : ∃ r h', m_Call m_P (d + 2) 47 [.ref q, .int x] (h) r h' ∧ (fun r h2 => r = some (.int (m_bI (decide (x_sg X (x_next X) = c)))) ∧ Htx h2 q (x_at X (if x_sg X (x_next X) = c then x_next X + 1 else x_next X)) ∧ Chg q (q + 5) h h2) r h' := by
  refine m_call_ex (tab := tX4_take) (nL := 2) rfl rfl ?_
  subst hx
  have hs := x_sg_lt ok (x_next X)
  refine m_E.run 1 (pc1 := 1) (ls1 := [some _, some _]) (st1 := [_]) rfl ?_
  refine m_E.ov H.2.1 H.1 rfl rfl rfl (c_nextSign H ok) ?_
  refine m_E.run 1 (pc1 := 5) (ls1 := [some _, some _]) (st1 := [_, _]) rfl ?_
  refine m_E.ic2 rfl (fun q1 => ?_) (fun q1 => ?_)
  · skip
    have e : x_sg X (x_next X) = c := of_decide_eq_true ((m_beqI (by omega) (by omega)).symm.trans q1)
    refine m_E.run 2 (pc1 := 12) (ls1 := [some _, some _]) (st1 := [_, _]) rfl ?_
    refine m_E.gf H.2.1 H.1 rfl rfl ?_
    refine m_E.run 2 (pc1 := 17) (ls1 := [some _, some _]) (st1 := [_, _]) rfl ?_
    dsimp only
    change m_E _ _ _ _ (.int (nI (x_next X) + nI 1) :: _) _ _
    rw [nI_add]
    refine H.p2 rfl rfl (fun h1 H1 c1 => ?_)
    refine m_E.run 1 (pc1 := 21) (ls1 := [some _, some _]) (st1 := [_]) rfl ?_
    exact m_E.zret (by decide) rfl ⟨by rw [decide_eq_true e]; rfl, by rw [if_pos e]; exact H1, c1⟩
  · skip
    have e : ¬ x_sg X (x_next X) = c := of_decide_eq_false ((m_beqI (by omega) (by omega)).symm.trans q1)
    refine m_E.run 1 (pc1 := 9) (ls1 := [some _, some _]) (st1 := [_]) rfl ?_
    exact m_E.zret (by decide) rfl ⟨by rw [decide_eq_false e]; rfl, by rw [if_neg e]; exact H, Chg.rf⟩
def p_dig (s : Nat) : Option Nat := if 48 ≤ s ∧ s ≤ 57 then some (s - 48) else none
def p_oI : Option Nat → Int32
  | none => -5
  | some v => nI v
theorem p_dig_lt {s v : Nat} (h : p_dig s = some v) : v < 10 ∧ s ≠ 0 := by
  unfold p_dig at h
  split at h
  · cases h; omega
  · cases h
theorem c_nextDigit {d : Nat} {q : Nat} {X : c_Tx} {h : m_Hp} (H : Htx h q X) (ok : Okx X) : m_Call m_P (d + 2) 49 [.ref q] (h) (some (.int (p_oI (p_dig (x_sg X (x_next X)))))) (h) := by
  refine m_call_of (tab := tX4_nextDigit) (nL := 2) rfl rfl ?_
  have hs := x_sg_lt ok (x_next X)
  refine m_E.run 1 (pc1 := 1) (ls1 := [some _, none]) (st1 := [_]) rfl ?_
  refine m_E.ov H.2.1 H.1 rfl rfl rfl (c_nextSign H ok) ?_
  refine m_E.run 3 (pc1 := 8) (ls1 := [some _, some _]) (st1 := [_, _]) rfl ?_
  refine m_E.ic2 rfl (fun q1 => ?_) (fun q1 => ?_)
  · skip
    have e := of_decide_eq_true ((m_ltI (by omega) (by omega)).symm.trans q1)
    refine m_E.run 1 (pc1 := 26) (ls1 := [some _, some _]) (st1 := [_]) rfl ?_
    exact m_E.iret rfl ⟨by rw [p_dig, if_neg (by omega)]; rfl, rfl⟩
  · skip
    have e := of_decide_eq_false ((m_ltI (by omega) (by omega)).symm.trans q1)
    refine m_E.run 2 (pc1 := 14) (ls1 := [some _, some _]) (st1 := [_, _]) rfl ?_
    refine m_E.ic2 rfl (fun q2 => ?_) (fun q2 => ?_)
    · skip
      have e2 := of_decide_eq_true ((m_ltI (by omega) (by omega)).symm.trans q2)
      refine m_E.run 1 (pc1 := 26) (ls1 := [some _, some _]) (st1 := [_]) rfl ?_
      exact m_E.iret rfl ⟨by rw [p_dig, if_neg (by omega)]; rfl, rfl⟩
    · skip
      have e2 := of_decide_eq_false ((m_ltI (by omega) (by omega)).symm.trans q2)
      refine m_E.run 4 (pc1 := 26) (ls1 := [some _, some _]) (st1 := [_]) rfl ?_
      dsimp only
      rw [pk_sub (by omega)]
      exact m_E.iret rfl ⟨by rw [p_dig, if_pos (by omega)]; rfl, rfl⟩
def p_num (sg : Nat → Nat) (least most at_ : Nat) : Option Nat × Nat := match p_dig (sg at_) with
  | none => (none, at_)
  | some v => if v < least ∨ most < v then (none, at_) else match p_dig (sg (at_ + 1)) with
    | none => (some v, at_ + 1)
    | some w => if v = 0 ∨ most < 10 * v + w then (some v, at_ + 1) else (some (10 * v + w), at_ + 2)
theorem m_n5 {v : Nat} (h : v < 2 ^ 31) : (nI v == -5) = false := by
  rw [beq_eq_false_iff_ne]
  intro z
  have q := congrArg Int32.toInt z
  rw [nI_toInt h, show (-5 : Int32).toInt = -5 from by decide] at q
  omega
theorem c_readNumber {d : Nat} {q least most : Nat} {X : c_Tx} {x y : Int32} {h : m_Hp} (H : Htx h q X) (ok : Okx X) (hx : x = nI least) (hy : y = nI most) (h1 : least < 100) (h2 : most < 100) : ∃ r h', m_Call m_P (d + 3) 48 [.ref q, .int x, .int y] (h) r h' ∧ (fun r h2 => r = some (.int (p_oI (p_num (x_sg X) least most (x_next X)).1)) ∧ Htx h2 q (x_at X (p_num (x_sg X) least most (x_next X)).2) ∧ Chg q (q + 5) h h2) r h' := by
  refine m_call_ex (tab := tX4_readNumber) (nL := 5) rfl rfl ?_
  subst hx hy
  have k4 := ok.2.2.2.1
  have k3 := ok.2.2.1
  refine m_E.run 1 (pc1 := 1) (ls1 := [some _, some _, some _, none, none]) (st1 := [_]) rfl ?_
  refine m_E.ov H.2.1 H.1 rfl rfl rfl (c_nextDigit H ok) ?_
  rcases e1 : p_dig (x_sg X (x_next X)) with _ | v
  · skip
    have ep : p_num (x_sg X) least most (x_next X) = (none, x_next X) := by rw [p_num, e1]
    rw [ep]
    refine m_E.run 3 (pc1 := 8) (ls1 := [some _, some _, some _, some _, none]) (st1 := [_, _]) rfl ?_
    refine m_E.ict (rfl) rfl ?_
    refine m_E.run 1 (pc1 := 23) (ls1 := [some _, some _, some _, some _, none]) (st1 := [_]) rfl ?_
    exact m_E.iret rfl ⟨rfl, H, Chg.rf⟩
  · skip
    obtain ⟨lv, sv⟩ := p_dig_lt e1
    have lx := x_sg_pos sv
    change m_E _ _ _ _ (.int (nI v) :: _) _ _
    refine m_E.run 3 (pc1 := 8) (ls1 := [some _, some _, some _, some _, none]) (st1 := [_, _]) rfl ?_
    refine m_E.icf (m_n5 (by omega)) rfl ?_
    refine m_E.run 2 (pc1 := 13) (ls1 := [some _, some _, some _, some _, none]) (st1 := [_, _]) rfl ?_
    refine m_E.ic2 rfl (fun q1 => ?_) (fun q1 => ?_)
    · skip
      have e2 := of_decide_eq_true ((m_ltI (by omega) (by omega)).symm.trans q1)
      have ep : p_num (x_sg X) least most (x_next X) = (none, x_next X) := by rw [p_num, e1]; dsimp only; rw [if_pos (by omega)]
      rw [ep]
      refine m_E.run 1 (pc1 := 23) (ls1 := [some _, some _, some _, some _, none]) (st1 := [_]) rfl ?_
      exact m_E.iret rfl ⟨rfl, H, Chg.rf⟩
    · skip
      have e2 := of_decide_eq_false ((m_ltI (by omega) (by omega)).symm.trans q1)
      refine m_E.run 2 (pc1 := 18) (ls1 := [some _, some _, some _, some _, none]) (st1 := [_, _]) rfl ?_
      refine m_E.ic2 rfl (fun q2 => ?_) (fun q2 => ?_)
      · skip
        have e3 := of_decide_eq_true ((m_leI (by omega) (by omega)).symm.trans q2)
        refine m_E.run 2 (pc1 := 26) (ls1 := [some _, some _, some _, some _, none]) (st1 := [_, _]) rfl ?_
        refine m_E.gf H.2.1 H.1 rfl rfl ?_
        refine m_E.run 2 (pc1 := 31) (ls1 := [some _, some _, some _, some _, none]) (st1 := [_, _]) rfl ?_
        dsimp only
        change m_E _ _ _ _ (.int (nI (x_next X) + nI 1) :: _) _ _
        rw [nI_add]
        refine H.p2 rfl rfl (fun h3 H1 c1 => ?_)
        have ok1 : Okx (x_at X (x_next X + 1)) := ok.at (by omega)
        refine m_E.run 1 (pc1 := 35) (ls1 := [some _, some _, some _, some _, none]) (st1 := [_]) rfl ?_
        refine m_E.ov H1.2.1 H1.1 rfl rfl rfl (c_nextDigit H1 ok1) ?_
        change m_E _ _ _ _ (.int (p_oI (p_dig (x_sg X (x_next X + 1)))) :: _) _ _
        refine m_E.run 2 (pc1 := 41) (ls1 := [some _, some _, some _, some _, some _]) (st1 := [_]) rfl ?_
        have fin : (p_num (x_sg X) least most (x_next X) = (some v, x_next X + 1)) → m_E (m_Call m_P (d + 2)) tX4_readNumber 62 [some (.ref q), some (.int (nI least)), some (.int (nI most)), some (.int (nI v)), some (.int (p_oI (p_dig (x_sg X (x_next X + 1)))))] [] h3 (fun r h2 => r = some (.int (p_oI (p_num (x_sg X) least most (x_next X)).1)) ∧ Htx h2 q (x_at X (p_num (x_sg X) least most (x_next X)).2) ∧ Chg q (q + 5) h h2) := by
          intro ep
          rw [ep]
          refine m_E.run 1 (pc1 := 63) (ls1 := [some _, some _, some _, some _, some _]) (st1 := [_]) rfl ?_
          exact m_E.iret rfl ⟨rfl, H1, c1⟩
        refine m_E.if2 rfl (fun q3 => ?_) (fun q3 => ?_)
        · skip
          have e4 := of_decide_eq_true ((m_beq0 (by omega)).symm.trans q3)
          refine fin ?_
          rw [p_num, e1]
          dsimp only
          rw [if_neg (by omega)]
          rcases p_dig (x_sg X (x_next X + 1)) with _ | w
          · rfl
          · dsimp only; rw [if_pos (by omega)]
        · skip
          have e4 := of_decide_eq_false ((m_beq0 (by omega)).symm.trans q3)
          rcases e5 : p_dig (x_sg X (x_next X + 1)) with _ | w
          · skip
            rw [e5] at fin
            refine m_E.run 2 (pc1 := 48) (ls1 := [some _, some _, some _, some _, some _]) (st1 := [_, _]) rfl ?_
            refine m_E.ict (rfl) rfl ?_
            refine fin ?_
            rw [p_num, e1]
            dsimp only
            rw [if_neg (by omega), e5]
          · skip
            rw [e5] at fin
            obtain ⟨lw, sw⟩ := p_dig_lt e5
            have lx2 := x_sg_pos sw
            change m_E _ _ _ [_, _, _, _, some (.int (nI w))] _ _ _
            refine m_E.run 2 (pc1 := 48) (ls1 := [some _, some _, some _, some _, some _]) (st1 := [_, _]) rfl ?_
            refine m_E.icf (m_n5 (by omega)) rfl ?_
            refine m_E.run 6 (pc1 := 59) (ls1 := [some _, some _, some _, some _, some _]) (st1 := [_, _]) rfl ?_
            dsimp only
            rw [pk_mul, nI_add]
            refine m_E.ic2 rfl (fun q4 => ?_) (fun q4 => ?_)
            · skip
              have e6 := of_decide_eq_true ((m_leI (by omega) (by omega)).symm.trans q4)
              have ep : p_num (x_sg X) least most (x_next X) = (some (10 * v + w), x_next X + 2) := by rw [p_num, e1]; dsimp only; rw [if_neg (by omega), e5]; dsimp only; rw [if_neg (by omega)]
              rw [ep]
              refine m_E.run 2 (pc1 := 66) (ls1 := [some _, some _, some _, some _, some _]) (st1 := [_, _]) rfl ?_
              refine m_E.gf H1.2.1 H1.1 rfl rfl ?_
              refine m_E.run 2 (pc1 := 71) (ls1 := [some _, some _, some _, some _, some _]) (st1 := [_, _]) rfl ?_
              dsimp only
              change m_E _ _ _ _ (.int (nI (x_next X + 1) + nI 1) :: _) _ _
              rw [nI_add]
              refine H1.p2 rfl rfl (fun h4 H2 c2 => ?_)
              refine m_E.run 5 (pc1 := 81) (ls1 := [some _, some _, some _, some _, some _]) (st1 := [_]) rfl ?_
              dsimp only
              rw [pk_mul, nI_add]
              exact m_E.iret rfl ⟨rfl, H2, c1.tr c2⟩
            · skip
              have e6 := of_decide_eq_false ((m_leI (by omega) (by omega)).symm.trans q4)
              refine fin ?_
              rw [p_num, e1]
              dsimp only
              rw [if_neg (by omega), e5]
              dsimp only
              rw [if_pos (by omega)]
      · skip
        have e3 := of_decide_eq_false ((m_leI (by omega) (by omega)).symm.trans q2)
        have ep : p_num (x_sg X) least most (x_next X) = (none, x_next X) := by rw [p_num, e1]; dsimp only; rw [if_pos (by omega)]
        rw [ep]
        refine m_E.run 1 (pc1 := 23) (ls1 := [some _, some _, some _, some _, none]) (st1 := [_]) rfl ?_
        exact m_E.iret rfl ⟨rfl, H, Chg.rf⟩
