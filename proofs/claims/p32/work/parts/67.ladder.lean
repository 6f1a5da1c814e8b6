/-! what a pair of ints of the script is read as -/
set_option maxRecDepth 100000 in
theorem y_ld1 {turn : Nat} {x y : Int32} {h : m_Hp} {Q : Option Value → m_Hp → Prop} {w : Nat} {v14 v15 v16 v17 v18 v19 v20 : Option Value} (ht : turn < 100) (hw : w < 28) (K : ∀ kd, kd ≤ 10 → m_E (m_Call m_P 8) tL_law 261 [some (.ref 3), some (.ref 4), some (.ref 61), some (.ref 62), some (.ref 63), some (.ref 64), some (.ref 65), some (.ref 66), some (.ref 67), some (.ref 68), some (.int (nI turn)), some (.int x), some (.int y), some (.int (nI w)), v14, v15, v16, v17, v18, v19, v20] [.int (nI kd)] h Q) : m_E (m_Call m_P 8) tL_law 135 [some (.ref 3), some (.ref 4), some (.ref 61), some (.ref 62), some (.ref 63), some (.ref 64), some (.ref 65), some (.ref 66), some (.ref 67), some (.ref 68), some (.int (nI turn)), some (.int x), some (.int y), some (.int (nI w)), v14, v15, v16, v17, v18, v19, v20] [] h Q := by
  refine m_E.run 2 (pc1 := 138) (ls1 := [some _, some _, some _, some _, some _, some _, some _, some _, some _, some _, some _, some _, some _, some _, _, _, _, _, _, _, _]) (st1 := [_, _]) rfl ?_
  refine m_E.ic2 rfl (fun q0 => ?_) (fun q0 => ?_)
  · skip
    refine m_E.run 2 (pc1 := 149) (ls1 := [some _, some _, some _, some _, some _, some _, some _, some _, some _, some _, some _, some _, some _, some _, _, _, _, _, _, _, _]) (st1 := [_, _]) rfl ?_
    refine m_E.ic2 rfl (fun q1 => ?_) (fun q1 => ?_)
    · skip
      refine m_E.run 2 (pc1 := 160) (ls1 := [some _, some _, some _, some _, some _, some _, some _, some _, some _, some _, some _, some _, some _, some _, _, _, _, _, _, _, _]) (st1 := [_, _]) rfl ?_
      refine m_E.ic2 rfl (fun q2 => ?_) (fun q2 => ?_)
      · skip
        refine m_E.run 2 (pc1 := 171) (ls1 := [some _, some _, some _, some _, some _, some _, some _, some _, some _, some _, some _, some _, some _, some _, _, _, _, _, _, _, _]) (st1 := [_, _]) rfl ?_
        refine m_E.ic2 rfl (fun q3 => ?_) (fun q3 => ?_)
        · skip
          refine m_E.run 2 (pc1 := 182) (ls1 := [some _, some _, some _, some _, some _, some _, some _, some _, some _, some _, some _, some _, some _, some _, _, _, _, _, _, _, _]) (st1 := [_, _]) rfl ?_
          refine m_E.ic2 rfl (fun q4 => ?_) (fun q4 => ?_)
          · skip
            refine m_E.run 2 (pc1 := 193) (ls1 := [some _, some _, some _, some _, some _, some _, some _, some _, some _, some _, some _, some _, some _, some _, _, _, _, _, _, _, _]) (st1 := [_, _]) rfl ?_
            refine m_E.ic2 rfl (fun q5 => ?_) (fun q5 => ?_)
            · skip
              refine m_E.run 2 (pc1 := 204) (ls1 := [some _, some _, some _, some _, some _, some _, some _, some _, some _, some _, some _, some _, some _, some _, _, _, _, _, _, _, _]) (st1 := [_, _]) rfl ?_
              refine m_E.ic2 rfl (fun q6 => ?_) (fun q6 => ?_)
              · skip
                refine m_E.run 2 (pc1 := 216) (ls1 := [some _, some _, some _, some _, some _, some _, some _, some _, some _, some _, some _, some _, some _, some _, _, _, _, _, _, _, _]) (st1 := [_, _]) rfl ?_
                refine m_E.ic2 rfl (fun q7 => ?_) (fun q7 => ?_)
                · skip
                  refine m_E.run 2 (pc1 := 228) (ls1 := [some _, some _, some _, some _, some _, some _, some _, some _, some _, some _, some _, some _, some _, some _, _, _, _, _, _, _, _]) (st1 := [_, _]) rfl ?_
                  refine m_E.ic2 rfl (fun q8 => ?_) (fun q8 => ?_)
                  · skip
                    refine m_E.run 2 (pc1 := 240) (ls1 := [some _, some _, some _, some _, some _, some _, some _, some _, some _, some _, some _, some _, some _, some _, _, _, _, _, _, _, _]) (st1 := [_, _]) rfl ?_
                    refine m_E.ic2 rfl (fun q9 => ?_) (fun q9 => ?_)
                    · skip
                      refine m_E.run 2 (pc1 := 251) (ls1 := [some _, some _, some _, some _, some _, some _, some _, some _, some _, some _, some _, some _, some _, some _, _, _, _, _, _, _, _]) (st1 := [_, _]) rfl ?_
                      refine m_E.div (by decide) rfl ?_
                      rw [m_rem (by omega) 3 (by decide) (by decide)]
                      refine m_E.if2 rfl (fun q10 => ?_) (fun q10 => ?_)
                      · skip
                        refine m_E.run 1 (pc1 := 261) (ls1 := [some _, some _, some _, some _, some _, some _, some _, some _, some _, some _, some _, some _, some _, some _, _, _, _, _, _, _, _]) (st1 := [_]) rfl ?_
                        exact K 1 (by decide)
                      · skip
                        refine m_E.run 2 (pc1 := 261) (ls1 := [some _, some _, some _, some _, some _, some _, some _, some _, some _, some _, some _, some _, some _, some _, _, _, _, _, _, _, _]) (st1 := [_]) rfl ?_
                        exact K 10 (by decide)
                    · skip
                      refine m_E.run 2 (pc1 := 261) (ls1 := [some _, some _, some _, some _, some _, some _, some _, some _, some _, some _, some _, some _, some _, some _, _, _, _, _, _, _, _]) (st1 := [_]) rfl ?_
                      exact K 9 (by decide)
                  · skip
                    refine m_E.run 2 (pc1 := 261) (ls1 := [some _, some _, some _, some _, some _, some _, some _, some _, some _, some _, some _, some _, some _, some _, _, _, _, _, _, _, _]) (st1 := [_]) rfl ?_
                    exact K 8 (by decide)
                · skip
                  refine m_E.run 2 (pc1 := 261) (ls1 := [some _, some _, some _, some _, some _, some _, some _, some _, some _, some _, some _, some _, some _, some _, _, _, _, _, _, _, _]) (st1 := [_]) rfl ?_
                  exact K 7 (by decide)
              · skip
                refine m_E.run 2 (pc1 := 261) (ls1 := [some _, some _, some _, some _, some _, some _, some _, some _, some _, some _, some _, some _, some _, some _, _, _, _, _, _, _, _]) (st1 := [_]) rfl ?_
                exact K 6 (by decide)
            · skip
              refine m_E.run 2 (pc1 := 261) (ls1 := [some _, some _, some _, some _, some _, some _, some _, some _, some _, some _, some _, some _, some _, some _, _, _, _, _, _, _, _]) (st1 := [_]) rfl ?_
              exact K 5 (by decide)
          · skip
            refine m_E.run 2 (pc1 := 261) (ls1 := [some _, some _, some _, some _, some _, some _, some _, some _, some _, some _, some _, some _, some _, some _, _, _, _, _, _, _, _]) (st1 := [_]) rfl ?_
            exact K 4 (by decide)
        · skip
          refine m_E.run 2 (pc1 := 261) (ls1 := [some _, some _, some _, some _, some _, some _, some _, some _, some _, some _, some _, some _, some _, some _, _, _, _, _, _, _, _]) (st1 := [_]) rfl ?_
          exact K 3 (by decide)
      · skip
        refine m_E.run 2 (pc1 := 261) (ls1 := [some _, some _, some _, some _, some _, some _, some _, some _, some _, some _, some _, some _, some _, some _, _, _, _, _, _, _, _]) (st1 := [_]) rfl ?_
        exact K 2 (by decide)
    · skip
      refine m_E.run 2 (pc1 := 261) (ls1 := [some _, some _, some _, some _, some _, some _, some _, some _, some _, some _, some _, some _, some _, some _, _, _, _, _, _, _, _]) (st1 := [_]) rfl ?_
      exact K 1 (by decide)
  · skip
    refine m_E.run 2 (pc1 := 261) (ls1 := [some _, some _, some _, some _, some _, some _, some _, some _, some _, some _, some _, some _, some _, some _, _, _, _, _, _, _, _]) (st1 := [_]) rfl ?_
    exact K 0 (by decide)
def y_ra (kd a : Nat) : Prop := (kd < 3 → a < 24) ∧ (kd = 3 ∨ kd = 5 → a < 4) ∧ (kd = 4 → a < 2) ∧ (6 ≤ kd → 1 ≤ a ∧ a ≤ 24) ∧ a < 100
set_option maxRecDepth 100000 in
theorem y_ld2 {turn : Nat} {x y : Int32} {h : m_Hp} {Q : Option Value → m_Hp → Prop} {kd : Nat} {w : Int32} {v14 v15 v16 v17 v18 v19 v20 : Option Value} (hk : kd ≤ 10) (K : ∀ a, y_ra kd a → m_E (m_Call m_P 8) tL_law 341 [some (.ref 3), some (.ref 4), some (.ref 61), some (.ref 62), some (.ref 63), some (.ref 64), some (.ref 65), some (.ref 66), some (.ref 67), some (.ref 68), some (.int (nI turn)), some (.int x), some (.int y), some (.int (nI kd)), v14, v15, v16, v17, v18, v19, v20] [.int (nI a)] h Q) : m_E (m_Call m_P 8) tL_law 261 [some (.ref 3), some (.ref 4), some (.ref 61), some (.ref 62), some (.ref 63), some (.ref 64), some (.ref 65), some (.ref 66), some (.ref 67), some (.ref 68), some (.int (nI turn)), some (.int x), some (.int y), some (.int w), v14, v15, v16, v17, v18, v19, v20] [.int (nI kd)] h Q := by
  have l24 := y_lw_lt y (show 0 < 24 by decide)
  have l12 := y_lw_lt y (show 0 < 12 by decide)
  have l4 := y_lw_lt y (show 0 < 4 by decide)
  have l2 := y_lw_lt y (show 0 < 2 by decide)
  refine m_E.run 3 (pc1 := 266) (ls1 := [some _, some _, some _, some _, some _, some _, some _, some _, some _, some _, some _, some _, some _, some _, _, _, _, _, _, _, _]) (st1 := [_, _]) rfl ?_
  by_cases k3 : 3 ≤ kd
  · skip
    refine m_E.ict ((m_leI (by omega) (by omega)).trans (decide_eq_true k3)) rfl ?_
    refine m_E.run 2 (pc1 := 282) (ls1 := [some _, some _, some _, some _, some _, some _, some _, some _, some _, some _, some _, some _, some _, some _, _, _, _, _, _, _, _]) (st1 := [_, _]) rfl ?_
    by_cases e3 : kd = 3
    · skip
      refine m_E.ict ((m_beqI (by omega) (by omega)).trans (decide_eq_true e3)) rfl ?_
      refine m_E.run 2 (pc1 := 294) (ls1 := [some _, some _, some _, some _, some _, some _, some _, some _, some _, some _, some _, some _, some _, some _, _, _, _, _, _, _, _]) (st1 := [_, _]) rfl ?_
      refine m_E.cv rfl rfl (y_low (n := 4) (d := 7) rfl (by decide) (by decide)) ?_
      refine m_E.run 1 (pc1 := 341) (ls1 := [some _, some _, some _, some _, some _, some _, some _, some _, some _, some _, some _, some _, some _, some _, _, _, _, _, _, _, _]) (st1 := [_]) rfl ?_
      exact K _ ⟨fun z => by omega, fun _ => l4, fun z => by omega, fun z => by omega, by omega⟩
    · skip
      refine m_E.icf ((m_beqI (by omega) (by omega)).trans (decide_eq_false e3)) rfl ?_
      refine m_E.run 2 (pc1 := 288) (ls1 := [some _, some _, some _, some _, some _, some _, some _, some _, some _, some _, some _, some _, some _, some _, _, _, _, _, _, _, _]) (st1 := [_, _]) rfl ?_
      by_cases e5 : kd = 5
      · skip
        refine m_E.icf (by rw [e5]; decide) rfl ?_
        refine m_E.run 2 (pc1 := 294) (ls1 := [some _, some _, some _, some _, some _, some _, some _, some _, some _, some _, some _, some _, some _, some _, _, _, _, _, _, _, _]) (st1 := [_, _]) rfl ?_
        refine m_E.cv rfl rfl (y_low (n := 4) (d := 7) rfl (by decide) (by decide)) ?_
        refine m_E.run 1 (pc1 := 341) (ls1 := [some _, some _, some _, some _, some _, some _, some _, some _, some _, some _, some _, some _, some _, some _, _, _, _, _, _, _, _]) (st1 := [_]) rfl ?_
        exact K _ ⟨fun z => by omega, fun _ => l4, fun z => by omega, fun z => by omega, by omega⟩
      · skip
        refine m_E.ict ((m_neI (by omega) (by omega)).trans (decide_eq_true e5)) rfl ?_
        refine m_E.run 2 (pc1 := 303) (ls1 := [some _, some _, some _, some _, some _, some _, some _, some _, some _, some _, some _, some _, some _, some _, _, _, _, _, _, _, _]) (st1 := [_, _]) rfl ?_
        by_cases e4 : kd = 4
        · skip
          refine m_E.icf (by rw [e4]; decide) rfl ?_
          refine m_E.run 2 (pc1 := 309) (ls1 := [some _, some _, some _, some _, some _, some _, some _, some _, some _, some _, some _, some _, some _, some _, _, _, _, _, _, _, _]) (st1 := [_, _]) rfl ?_
          refine m_E.cv rfl rfl (y_low (n := 2) (d := 7) rfl (by decide) (by decide)) ?_
          refine m_E.run 1 (pc1 := 341) (ls1 := [some _, some _, some _, some _, some _, some _, some _, some _, some _, some _, some _, some _, some _, some _, _, _, _, _, _, _, _]) (st1 := [_]) rfl ?_
          exact K _ ⟨fun z => by omega, fun z => by omega, fun _ => l2, fun z => by omega, by omega⟩
        · skip
          refine m_E.ict ((m_neI (by omega) (by omega)).trans (decide_eq_true e4)) rfl ?_
          refine m_E.run 6 (pc1 := 324) (ls1 := [some _, some _, some _, some _, some _, some _, some _, some _, some _, some _, some _, some _, some _, some _, _, _, _, _, _, _, _]) (st1 := [_, _, _, _]) rfl ?_
          dsimp only
          have l3 := y_lw_lt (y >>> (nI 20 &&& 31)) (show 0 < 3 by decide)
          refine m_E.cv rfl rfl (y_low (n := 3) (d := 7) rfl (by decide) (by decide)) ?_
          generalize y_lw (y >>> (nI 20 &&& 31)) 3 = u at *
          by_cases z : u = 0
          · skip
            refine m_E.iff (by rw [z]; rfl) rfl ?_
            refine m_E.run 2 (pc1 := 337) (ls1 := [some _, some _, some _, some _, some _, some _, some _, some _, some _, some _, some _, some _, some _, some _, _, _, _, _, _, _, _]) (st1 := [_, _, _]) rfl ?_
            refine m_E.cv rfl rfl (y_low (n := 24) (d := 7) rfl (by decide) (by decide)) ?_
            refine m_E.run 1 (pc1 := 341) (ls1 := [some _, some _, some _, some _, some _, some _, some _, some _, some _, some _, some _, some _, some _, some _, _, _, _, _, _, _, _]) (st1 := [_]) rfl ?_
            dsimp only
            rw [nI_add]
            exact K _ ⟨fun z => by omega, fun z => by omega, fun z => by omega, fun z => by omega, by omega⟩
          · skip
            refine m_E.ift (by rw [m_beq0 (by omega), decide_eq_false z]; rfl) rfl ?_
            refine m_E.run 1 (pc1 := 337) (ls1 := [some _, some _, some _, some _, some _, some _, some _, some _, some _, some _, some _, some _, some _, some _, _, _, _, _, _, _, _]) (st1 := [_, _, _]) rfl ?_
            refine m_E.cv rfl rfl (y_low (n := 12) (d := 7) rfl (by decide) (by decide)) ?_
            refine m_E.run 1 (pc1 := 341) (ls1 := [some _, some _, some _, some _, some _, some _, some _, some _, some _, some _, some _, some _, some _, some _, _, _, _, _, _, _, _]) (st1 := [_]) rfl ?_
            dsimp only
            rw [nI_add]
            exact K _ ⟨fun z => by omega, fun z => by omega, fun z => by omega, fun z => by omega, by omega⟩
  · skip
    refine m_E.icf ((m_leI (by omega) (by omega)).trans (decide_eq_false k3)) rfl ?_
    refine m_E.run 2 (pc1 := 273) (ls1 := [some _, some _, some _, some _, some _, some _, some _, some _, some _, some _, some _, some _, some _, some _, _, _, _, _, _, _, _]) (st1 := [_, _]) rfl ?_
    refine m_E.cv rfl rfl (y_low (n := 24) (d := 7) rfl (by decide) (by decide)) ?_
    refine m_E.run 1 (pc1 := 341) (ls1 := [some _, some _, some _, some _, some _, some _, some _, some _, some _, some _, some _, some _, some _, some _, _, _, _, _, _, _, _]) (st1 := [_]) rfl ?_
    exact K _ ⟨fun _ => l24, fun z => by omega, fun z => by omega, fun z => by omega, by omega⟩
def y_rb (kd a b : Nat) : Prop := (kd = 0 → b < 24) ∧ (kd = 1 → b < 4) ∧ (kd = 3 → b_least a ≤ b ∧ b ≤ b_most a) ∧ b < 100
theorem y_lm : b_least 0 = 1 ∧ b_most 0 = 99 ∧ b_least 1 = 0 ∧ b_most 1 = 9 ∧ b_least 2 = 0 ∧ b_most 2 = 24 ∧ b_least 3 = 1 ∧ b_most 3 = 99 := by decide
set_option maxRecDepth 100000 in
theorem y_ld3 {turn : Nat} {x y : Int32} {h : m_Hp} {Q : Option Value → m_Hp → Prop} {kd a : Nat} {w : Option Value} {v15 v16 v17 v18 v19 v20 : Option Value} (hk : kd ≤ 10) (ha : y_ra kd a) (K : ∀ b, y_rb kd a b → m_E (m_Call m_P 8) tL_law 443 [some (.ref 3), some (.ref 4), some (.ref 61), some (.ref 62), some (.ref 63), some (.ref 64), some (.ref 65), some (.ref 66), some (.ref 67), some (.ref 68), some (.int (nI turn)), some (.int x), some (.int y), some (.int (nI kd)), some (.int (nI a)), v15, v16, v17, v18, v19, v20] [.int (nI b)] h Q) : m_E (m_Call m_P 8) tL_law 341 [some (.ref 3), some (.ref 4), some (.ref 61), some (.ref 62), some (.ref 63), some (.ref 64), some (.ref 65), some (.ref 66), some (.ref 67), some (.ref 68), some (.int (nI turn)), some (.int x), some (.int y), some (.int (nI kd)), w, v15, v16, v17, v18, v19, v20] [.int (nI a)] h Q := by
  obtain ⟨a1, a2, a3, a4, a5⟩ := ha
  obtain ⟨m0, m1, m2, m3, m4, m5, m6, m7⟩ := y_lm
  generalize ey : y >>> (nI 5 &&& 31) = y5
  have l24 := y_lw_lt y5 (show 0 < 24 by decide)
  have l4 := y_lw_lt y5 (show 0 < 4 by decide)
  have l9 := y_lw_lt y5 (show 0 < 9 by decide)
  have l10 := y_lw_lt y5 (show 0 < 10 by decide)
  have l25 := y_lw_lt y5 (show 0 < 25 by decide)
  have l99 := y_lw_lt y5 (show 0 < 99 by decide)
  refine m_E.run 2 (pc1 := 345) (ls1 := [some _, some _, some _, some _, some _, some _, some _, some _, some _, some _, some _, some _, some _, some _, some _, _, _, _, _, _, _]) (st1 := [_]) rfl ?_
  by_cases k0 : kd = 0
  · skip
    refine m_E.iff (by rw [k0]; rfl) rfl ?_
    refine m_E.run 4 (pc1 := 354) (ls1 := [some _, some _, some _, some _, some _, some _, some _, some _, some _, some _, some _, some _, some _, some _, some _, _, _, _, _, _, _]) (st1 := [_, _]) rfl ?_
    dsimp only
    rw [ey]
    refine m_E.cv rfl rfl (y_low (n := 24) (d := 7) rfl (by decide) (by decide)) ?_
    refine m_E.run 1 (pc1 := 443) (ls1 := [some _, some _, some _, some _, some _, some _, some _, some _, some _, some _, some _, some _, some _, some _, some _, _, _, _, _, _, _]) (st1 := [_]) rfl ?_
    exact K _ ⟨fun _ => l24, fun z => by omega, fun z => by omega, by omega⟩
  · skip
    refine m_E.ift (by rw [m_beq0 (by omega), decide_eq_false k0]; rfl) rfl ?_
    refine m_E.run 2 (pc1 := 363) (ls1 := [some _, some _, some _, some _, some _, some _, some _, some _, some _, some _, some _, some _, some _, some _, some _, _, _, _, _, _, _]) (st1 := [_, _]) rfl ?_
    by_cases k1 : kd = 1
    · skip
      refine m_E.icf (by rw [k1]; decide) rfl ?_
      refine m_E.run 4 (pc1 := 371) (ls1 := [some _, some _, some _, some _, some _, some _, some _, some _, some _, some _, some _, some _, some _, some _, some _, _, _, _, _, _, _]) (st1 := [_, _]) rfl ?_
      dsimp only
      rw [ey]
      refine m_E.cv rfl rfl (y_low (n := 4) (d := 7) rfl (by decide) (by decide)) ?_
      refine m_E.run 1 (pc1 := 443) (ls1 := [some _, some _, some _, some _, some _, some _, some _, some _, some _, some _, some _, some _, some _, some _, some _, _, _, _, _, _, _]) (st1 := [_]) rfl ?_
      exact K _ ⟨fun z => by omega, fun _ => l4, fun z => by omega, by omega⟩
    · skip
      refine m_E.ict ((m_neI (by omega) (by omega)).trans (decide_eq_true k1)) rfl ?_
      refine m_E.run 1 (pc1 := 379) (ls1 := [some _, some _, some _, some _, some _, some _, some _, some _, some _, some _, some _, some _, some _, some _, some _, _, _, _, _, _, _]) (st1 := [_]) rfl ?_
      by_cases z0 : a = 0
      · skip
        refine m_E.iff (by rw [z0]; rfl) rfl ?_
        refine m_E.run 5 (pc1 := 389) (ls1 := [some _, some _, some _, some _, some _, some _, some _, some _, some _, some _, some _, some _, some _, some _, some _, _, _, _, _, _, _]) (st1 := [_, _, _]) rfl ?_
        dsimp only
        rw [ey]
        refine m_E.cv rfl rfl (y_low (n := 9) (d := 7) rfl (by decide) (by decide)) ?_
        refine m_E.run 2 (pc1 := 443) (ls1 := [some _, some _, some _, some _, some _, some _, some _, some _, some _, some _, some _, some _, some _, some _, some _, _, _, _, _, _, _]) (st1 := [_]) rfl ?_
        dsimp only
        rw [nI_add]
        exact K _ ⟨fun z => by omega, fun z => by omega, fun _ => by rw [z0, m0, m1]; omega, by omega⟩
      · skip
        refine m_E.ift (by rw [m_beq0 (by omega), decide_eq_false z0]; rfl) rfl ?_
        refine m_E.run 2 (pc1 := 399) (ls1 := [some _, some _, some _, some _, some _, some _, some _, some _, some _, some _, some _, some _, some _, some _, some _, _, _, _, _, _, _]) (st1 := [_, _]) rfl ?_
        by_cases z1 : a = 1
        · skip
          refine m_E.icf (by rw [z1]; decide) rfl ?_
          refine m_E.run 4 (pc1 := 408) (ls1 := [some _, some _, some _, some _, some _, some _, some _, some _, some _, some _, some _, some _, some _, some _, some _, _, _, _, _, _, _]) (st1 := [_, _]) rfl ?_
          dsimp only
          rw [ey]
          refine m_E.cv rfl rfl (y_low (n := 10) (d := 7) rfl (by decide) (by decide)) ?_
          refine m_E.run 1 (pc1 := 443) (ls1 := [some _, some _, some _, some _, some _, some _, some _, some _, some _, some _, some _, some _, some _, some _, some _, _, _, _, _, _, _]) (st1 := [_]) rfl ?_
          exact K _ ⟨fun z => by omega, fun z => by omega, fun _ => by rw [z1, m2, m3]; omega, by omega⟩
        · skip
          refine m_E.ict ((m_neI (by omega) (by omega)).trans (decide_eq_true z1)) rfl ?_
          refine m_E.run 2 (pc1 := 417) (ls1 := [some _, some _, some _, some _, some _, some _, some _, some _, some _, some _, some _, some _, some _, some _, some _, _, _, _, _, _, _]) (st1 := [_, _]) rfl ?_
          by_cases z2 : a = 2
          · skip
            refine m_E.icf (by rw [z2]; decide) rfl ?_
            refine m_E.run 4 (pc1 := 426) (ls1 := [some _, some _, some _, some _, some _, some _, some _, some _, some _, some _, some _, some _, some _, some _, some _, _, _, _, _, _, _]) (st1 := [_, _]) rfl ?_
            dsimp only
            rw [ey]
            refine m_E.cv rfl rfl (y_low (n := 25) (d := 7) rfl (by decide) (by decide)) ?_
            refine m_E.run 1 (pc1 := 443) (ls1 := [some _, some _, some _, some _, some _, some _, some _, some _, some _, some _, some _, some _, some _, some _, some _, _, _, _, _, _, _]) (st1 := [_]) rfl ?_
            exact K _ ⟨fun z => by omega, fun z => by omega, fun _ => by rw [z2, m4, m5]; omega, by omega⟩
          · skip
            refine m_E.ict ((m_neI (by omega) (by omega)).trans (decide_eq_true z2)) rfl ?_
            refine m_E.run 5 (pc1 := 439) (ls1 := [some _, some _, some _, some _, some _, some _, some _, some _, some _, some _, some _, some _, some _, some _, some _, _, _, _, _, _, _]) (st1 := [_, _, _]) rfl ?_
            dsimp only
            rw [ey]
            refine m_E.cv rfl rfl (y_low (n := 99) (d := 7) rfl (by decide) (by decide)) ?_
            refine m_E.run 1 (pc1 := 443) (ls1 := [some _, some _, some _, some _, some _, some _, some _, some _, some _, some _, some _, some _, some _, some _, some _, _, _, _, _, _, _]) (st1 := [_]) rfl ?_
            dsimp only
            rw [nI_add]
            exact K _ ⟨fun z => by omega, fun z => by omega, fun z => by rw [show a = 3 by have := a2 (Or.inl z); omega, m6, m7]; omega, by omega⟩
set_option maxRecDepth 100000 in
theorem y_ld4 {turn : Nat} {x y : Int32} {h : m_Hp} {Q : Option Value → m_Hp → Prop} {kd a b : Nat} {w : Option Value} {v16 v17 v18 v19 v20 : Option Value} (hk : kd ≤ 10) (ha : y_ra kd a) (hb : y_rb kd a b) (K : ∀ e, y_rg kd a b e → m_E (m_Call m_P 8) tL_law 481 [some (.ref 3), some (.ref 4), some (.ref 61), some (.ref 62), some (.ref 63), some (.ref 64), some (.ref 65), some (.ref 66), some (.ref 67), some (.ref 68), some (.int (nI turn)), some (.int x), some (.int y), some (.int (nI kd)), some (.int (nI a)), some (.int (nI b)), v16, v17, v18, v19, v20] [.int (nI e)] h Q) : m_E (m_Call m_P 8) tL_law 443 [some (.ref 3), some (.ref 4), some (.ref 61), some (.ref 62), some (.ref 63), some (.ref 64), some (.ref 65), some (.ref 66), some (.ref 67), some (.ref 68), some (.int (nI turn)), some (.int x), some (.int y), some (.int (nI kd)), some (.int (nI a)), w, v16, v17, v18, v19, v20] [.int (nI b)] h Q := by
  obtain ⟨a1, a2, a3, a4, a5⟩ := ha
  obtain ⟨b1, b2, b3, b4⟩ := hb
  have key : ∀ e, e < 19 → (kd = 1 → e < 2) → y_rg kd a b e := fun e h1 h2 => ⟨hk, a1, b1, fun z => ⟨b2 z, h2 z⟩, h1, fun z => ⟨a2 (Or.inl z), b3 z⟩, a3, fun z => a2 (Or.inr z), a4, a5, b4⟩
  generalize ey : y >>> (nI 10 &&& 31) = y5
  have l19 := y_lw_lt y5 (show 0 < 19 by decide)
  have l4 := y_lw_lt y5 (show 0 < 4 by decide)
  refine m_E.run 3 (pc1 := 448) (ls1 := [some _, some _, some _, some _, some _, some _, some _, some _, some _, some _, some _, some _, some _, some _, some _, some _, _, _, _, _, _]) (st1 := [_, _]) rfl ?_
  by_cases k1 : kd = 1
  · skip
    refine m_E.icf (by rw [k1]; decide) rfl ?_
    refine m_E.run 4 (pc1 := 457) (ls1 := [some _, some _, some _, some _, some _, some _, some _, some _, some _, some _, some _, some _, some _, some _, some _, some _, _, _, _, _, _]) (st1 := [_, _]) rfl ?_
    dsimp only
    rw [ey]
    refine m_E.cv rfl rfl (y_low (n := 4) (d := 7) rfl (by decide) (by decide)) ?_
    refine m_E.if2 rfl (fun q1 => ?_) (fun q1 => ?_)
    · skip
      refine m_E.run 2 (pc1 := 481) (ls1 := [some _, some _, some _, some _, some _, some _, some _, some _, some _, some _, some _, some _, some _, some _, some _, some _, _, _, _, _, _]) (st1 := [_]) rfl ?_
      exact K 0 (key 0 (by decide) (fun _ => by decide))
    · skip
      refine m_E.run 2 (pc1 := 481) (ls1 := [some _, some _, some _, some _, some _, some _, some _, some _, some _, some _, some _, some _, some _, some _, some _, some _, _, _, _, _, _]) (st1 := [_]) rfl ?_
      exact K 1 (key 1 (by decide) (fun _ => by decide))
  · skip
    refine m_E.ict ((m_neI (by omega) (by omega)).trans (decide_eq_true k1)) rfl ?_
    refine m_E.run 4 (pc1 := 478) (ls1 := [some _, some _, some _, some _, some _, some _, some _, some _, some _, some _, some _, some _, some _, some _, some _, some _, _, _, _, _, _]) (st1 := [_, _]) rfl ?_
    dsimp only
    rw [ey]
    refine m_E.cv rfl rfl (y_low (n := 19) (d := 7) rfl (by decide) (by decide)) ?_
    exact K _ (key _ l19 (fun z => absurd z k1))
