/-! the fault of a text; its changes -/
def p_okc (r : Nat × Nat × Int32) : Prop := (r.1 = 115 ∨ r.1 = 109 ∨ r.1 = 117 ∨ r.1 = 108) ∧ r.2.1 < 24 ∧ ∃ s, s ≤ p_most r.1 ∧ (r.2.2 = nI s ∨ (r.1 = 108 ∧ r.2.2 = -(nI s)))
theorem p_change_pos {sg : Nat → Nat} {len a : Nat} (hz : ∀ j, sg j ≠ 0 → j < len) (ha : a ≤ len) : a ≤ (p_change sg a).2 ∧ (p_change sg a).2 ≤ len ∧ ∀ r, (p_change sg a).1 = some r → a + 4 ≤ (p_change sg a).2 ∧ p_okc r := by
  by_cases hk : sg a = 115 ∨ sg a = 109 ∨ sg a = 117 ∨ sg a = 108
  · have b1 := hz a (by omega)
    have pp := p_num_pos (l := 0) (m := 23) (a := a + 1) hz (by omega)
    rcases en : p_num sg 0 23 (a + 1) with ⟨_ | f, n⟩
    · have e : p_change sg a = (none, n) := by rw [p_change, if_pos hk, en]
      rw [en] at pp
      rw [e]
      have q1 := pp.1
      have q2 := pp.2.1
      dsimp only at q1 q2
      exact ⟨by dsimp only; omega, by dsimp only; omega, fun r z => by cases z⟩
    · rw [en] at pp
      obtain ⟨q1, q2, q3⟩ := pp
      obtain ⟨q4, q5, _⟩ := q3 f rfl
      dsimp only at q1 q2 q4
      by_cases es : sg n = (if sg a = 115 then 47 else 61)
      · have b2 := hz n (by rw [es]; split <;> decide)
        by_cases eb : sg a = 108 ∧ sg (n + 1) = 45
        · have b3 := hz (n + 1) (by omega)
          have e : p_change sg a = p_tail sg (sg a) f true (n + 2) := by rw [p_change, if_pos hk, en]; dsimp only; rw [if_pos es, if_pos eb]
          rw [e]
          obtain ⟨t1, t2, t3⟩ := p_tail_pos (k := sg a) (f := f) (below := true) hz (show n + 2 ≤ len by omega)
          refine ⟨by omega, t2, fun r z => ?_⟩
          obtain ⟨u1, u2, u3, s, u4, u5⟩ := t3 r z
          refine ⟨by omega, by omega, by omega, s, by rw [u2]; exact u4, ?_⟩
          rcases u5 with ⟨u5, _⟩ | ⟨_, u5⟩
          · cases u5
          · exact Or.inr ⟨by omega, u5⟩
        · have e : p_change sg a = p_tail sg (sg a) f false (n + 1) := by rw [p_change, if_pos hk, en]; dsimp only; rw [if_pos es, if_neg eb]
          rw [e]
          obtain ⟨t1, t2, t3⟩ := p_tail_pos (k := sg a) (f := f) (below := false) hz (show n + 1 ≤ len by omega)
          refine ⟨by omega, t2, fun r z => ?_⟩
          obtain ⟨u1, u2, u3, s, u4, u5⟩ := t3 r z
          refine ⟨by omega, by omega, by omega, s, by rw [u2]; exact u4, ?_⟩
          rcases u5 with ⟨_, u5⟩ | ⟨u5, _⟩
          · exact Or.inl u5
          · cases u5
      · have e : p_change sg a = (none, n) := by rw [p_change, if_pos hk, en]; dsimp only; rw [if_neg es]
        rw [e]
        exact ⟨by dsimp only; omega, by dsimp only; omega, fun r z => by cases z⟩
  · have e : p_change sg a = (none, a) := by rw [p_change, if_neg hk]
    rw [e]
    exact ⟨Nat.le_refl _, ha, fun r z => by cases z⟩
def p_run (sg : Nat → Nat) (len : Nat) : Nat → Nat → List (Nat × Nat × Int32) → Option Nat × List (Nat × Nat × Int32)
  | 0, a, L => (some a, L)
  | fuel + 1, a, L => match p_change sg a with
    | (none, n) => (some n, L)
    | (some c, n) => if n = len then (none, L ++ [c]) else if sg n = 59 then p_run sg len fuel (n + 1) (L ++ [c]) else (some n, L ++ [c])
def x_list (X : c_Tx) : List (Nat × Nat × Int32) := (List.range (x_many X)).map fun j => ((x_kinds X).getD j 0, (x_firsts X).getD j 0, (x_seconds X).getD j 0)
theorem x_list_add {X : c_Tx} (ok : Okx X) (hm : x_many X < 12) (k f : Nat) (s : Int32) : x_list (x_add X k f s) = x_list X ++ [(k, f, s)] := by
  obtain ⟨k1, k2, k3, k4, k5, k6, k7, k8, k9⟩ := ok
  show (List.range (x_many X + 1)).map (fun j => (((x_kinds X).set (x_many X) k).getD j 0, ((x_firsts X).set (x_many X) f).getD j 0, ((x_seconds X).set (x_many X) s).getD j 0)) = x_list X ++ [(k, f, s)]
  rw [List.range_succ, List.map_append]
  congr 1
  · apply List.map_congr_left
    intro j hj
    rw [List.mem_range] at hj
    have e : x_many X ≠ j := by omega
    simp only [List.getD_eq_getElem?_getD, List.getElem?_set_ne e]
  · simp only [List.map_cons, List.map_nil, List.getD_eq_getElem?_getD, List.getElem?_set_self (show x_many X < (x_kinds X).length by omega), List.getElem?_set_self (show x_many X < (x_firsts X).length by omega), List.getElem?_set_self (show x_many X < (x_seconds X).length by omega), Option.getD_some]
theorem Okx.add {X : c_Tx} (ok : Okx X) (hm : x_many X < 12) {k f : Nat} {s : Int32} (hk : k < 65536) : Okx (x_add X k f s) := by
  obtain ⟨k1, k2, k3, k4, k5, k6, k7, k8, k9⟩ := ok
  refine ⟨k1, k2, k3, k4, (List.length_set ..).trans k5, fun c hc => ?_, (List.length_set ..).trans k7, (List.length_set ..).trans k8, hm⟩
  rcases List.mem_or_eq_of_mem_set hc with z | z
  · exact k6 c z
  · rw [z]; exact hk
theorem x_sg_eq {X Y : c_Tx} (e1 : x_signs Y = x_signs X) (e2 : x_len Y = x_len X) : x_sg Y = x_sg X := by
  funext k
  rw [x_sg, x_sg, e1, e2]
theorem c_findFault {d : Nat} {q : Nat} {X : c_Tx} {h : m_Hp} (H : Htx h q X) (ok : Okx X) : ∃ r h', m_Call m_P (d + 5) 41 [.ref q] (h) r h' ∧ (fun r h2 => r = some (.int (p_oI (p_run (x_sg X) (x_len X) 60 0 []).1)) ∧ ∃ Y, Htx h2 q Y ∧ Okx Y ∧ x_signs Y = x_signs X ∧ x_len Y = x_len X ∧ x_list Y = (p_run (x_sg X) (x_len X) 60 0 []).2 ∧ Chg q (q + 5) h h2) r h' := by
  refine m_call_ex (tab := tX4_findFault) (nL := 2) rfl rfl ?_
  have k3 := ok.2.2.1
  have hz : ∀ j, x_sg X j ≠ 0 → j < x_len X := fun j => x_sg_pos
  refine m_E.run 2 (pc1 := 2) (ls1 := [some _, none]) (st1 := [_, _]) rfl ?_
  refine H.p2 (v := 0) rfl rfl (fun h1 H1 c1 => ?_)
  refine m_E.run 2 (pc1 := 7) (ls1 := [some _, none]) (st1 := [_, _]) rfl ?_
  refine H1.p6 (v := 0) rfl rfl (fun h2 H2 c2 => ?_)
  have ok2 : Okx (x_cnt (x_at X 0) 0) := ⟨ok.1, ok.2.1, ok.2.2.1, by show 0 ≤ 60; omega, ok.2.2.2.2.1, ok.2.2.2.2.2.1, ok.2.2.2.2.2.2.1, ok.2.2.2.2.2.2.2.1, by show 0 ≤ 12; omega⟩
  replace c2 := c1.tr c2
  generalize hG : p_run (x_sg X) (x_len X) 60 0 [] = G
  refine m_E.run 2 (pc1 := 12) (ls1 := [some _, some _]) (st1 := []) rfl ?_
  refine m_E.lp (fun i ls hh => ∃ Y, ls = [some (.ref q), some (.int (nI i))] ∧ (Htx hh q Y ∧ Okx Y ∧ x_signs Y = x_signs X ∧ x_len Y = x_len X ∧ x_next Y ≤ x_len X ∧ 5 * x_many Y ≤ x_next Y ∧ p_run (x_sg X) (x_len X) (60 - i) (x_next Y) (x_list Y) = G ∧ Chg q (q + 5) h hh)) 60 ?_ ?_ ?_
  · skip
    rintro i _ hh hi ⟨Y, rfl, hI⟩ K
    obtain ⟨HY, okY, e1, e2, lY, mY, eG, cY⟩ := hI
    have esg := x_sg_eq e1 e2
    refine m_E.run 2 (pc1 := 15) (ls1 := [some _, some _]) (st1 := [_, _]) rfl ?_
    refine m_E.icf ((m_leI (by omega) (by omega)).trans (decide_eq_false (by omega))) rfl ?_
    refine m_E.run 1 (pc1 := 19) (ls1 := [some _, some _]) (st1 := [_]) rfl ?_
    obtain ⟨_, h3, p3, rfl, H3, c3⟩ := c_readChange (d := d) HY okY (by omega) mY
    have pp := p_change_pos (a := x_next Y) hz lY
    rw [esg] at p3 H3
    replace c3 := cY.tr c3
    refine m_E.ov HY.2.1 HY.1 rfl rfl rfl (p3) ?_
    have e60 : 60 - i = (59 - i) + 1 := by omega
    rw [e60] at eG
    rcases ec : p_change (x_sg X) (x_next Y) with ⟨_ | ⟨k, f, s⟩, n⟩
    · skip
      rw [ec] at H3
      rw [p_run, ec] at eG
      dsimp only at eG
      refine m_E.iff (rfl) rfl ?_
      change Htx h3 q (x_at Y n) at H3
      refine m_E.run 1 (pc1 := 26) (ls1 := [some _, some _]) (st1 := [_]) rfl ?_
      refine m_E.gf H3.2.1 H3.1 rfl rfl ?_
      rw [ec] at pp
      have pn : n ≤ x_len X := pp.2.1
      exact m_E.iret rfl ⟨by rw [← eG]; rfl, _, H3, okY.at (by omega), e1, e2, by rw [← eG]; rfl, c3⟩
    · skip
      rw [ec] at H3 pp
      rw [p_run, ec] at eG
      dsimp only at eG
      obtain ⟨pn1, pn2, pn3⟩ := pp
      obtain ⟨pn4, pn5, pn6, _⟩ := pn3 _ rfl
      dsimp only at pn1 pn2 pn4 pn5 pn6
      change Htx h3 q (x_add (x_at Y n) k f s) at H3
      have okn : Okx (x_at Y n) := okY.at (by omega)
      have ok3 : Okx (x_add (x_at Y n) k f s) := okn.add (show x_many Y < 12 by omega) (by omega)
      have el : x_list (x_add (x_at Y n) k f s) = x_list Y ++ [(k, f, s)] := x_list_add okn (show x_many Y < 12 by omega) k f s
      refine m_E.ift (rfl) rfl ?_
      refine m_E.run 1 (pc1 := 31) (ls1 := [some _, some _]) (st1 := [_]) rfl ?_
      refine m_E.gf H3.2.1 H3.1 rfl rfl ?_
      refine m_E.run 1 (pc1 := 35) (ls1 := [some _, some _]) (st1 := [_, _]) rfl ?_
      refine m_E.gf H3.2.1 H3.1 rfl rfl ?_
      change m_E _ _ _ _ (.int (nI (x_len Y)) :: .int (nI n) :: _) _ _
      rw [e2]
      by_cases en : n = x_len X
      · skip
        rw [if_pos en] at eG
        refine m_E.icf (by rw [en]; exact (m_neI (by omega) (by omega)).trans (decide_eq_false (fun z => z rfl))) rfl ?_
        refine m_E.run 1 (pc1 := 43) (ls1 := [some _, some _]) (st1 := [_]) rfl ?_
        exact m_E.iret rfl ⟨by rw [← eG]; rfl, _, H3, ok3, e1, e2, by rw [← eG]; exact el, c3⟩
      · skip
        rw [if_neg en] at eG
        refine m_E.ict ((m_neI (by omega) (by omega)).trans (decide_eq_true en)) rfl ?_
        refine m_E.run 2 (pc1 := 47) (ls1 := [some _, some _]) (st1 := [_, _]) rfl ?_
        obtain ⟨_, h4, p4, rfl, H4, c4⟩ := c_take (d := d + 2) H3 ok3 (rfl : nI 59 = nI 59) (by decide)
        rw [show x_sg (x_add (x_at Y n) k f s) = x_sg X from esg, show x_next (x_add (x_at Y n) k f s) = n from rfl] at p4 H4
        replace c4 := c3.tr c4
        refine m_E.ov H3.2.1 H3.1 rfl rfl rfl (p4) ?_
        by_cases es : x_sg X n = 59
        · skip
          rw [if_pos es] at eG H4
          rw [decide_eq_true es]
          have hn := hz n (by omega)
          refine m_E.ift (rfl) rfl ?_
          refine m_E.run 2 (pc1 := 12) (ls1 := [some _, some _]) (st1 := []) rfl ?_
          rw [nI_add]
          exact K _ _ ⟨_, rfl, H4, ok3.at (by omega), e1, e2, by show n + 1 ≤ x_len X; omega, by show 5 * (x_many Y + 1) ≤ n + 1; omega, by rw [show 60 - (i + 1) = 59 - i by omega, show x_list (x_at (x_add (x_at Y n) k f s) (n + 1)) = x_list Y ++ [(k, f, s)] from el]; exact eG, c4⟩
        · skip
          rw [if_neg es] at eG H4
          rw [decide_eq_false es]
          refine m_E.iff (rfl) rfl ?_
          refine m_E.run 1 (pc1 := 54) (ls1 := [some _, some _]) (st1 := [_]) rfl ?_
          refine m_E.gf H4.2.1 H4.1 rfl rfl ?_
          exact m_E.iret rfl ⟨by rw [← eG]; rfl, _, H4, ok3.at (by omega), e1, e2, by rw [← eG]; exact el, c4⟩
  · skip
    exact ⟨_, rfl, H2, ok2, rfl, rfl, by show 0 ≤ x_len X; omega, by show 5 * 0 ≤ 0; omega, hG, c2⟩
  · skip
    rintro _ hh ⟨Y, rfl, hI⟩
    obtain ⟨HY, okY, e1, e2, lY, mY, eG, cY⟩ := hI
    refine m_E.run 2 (pc1 := 15) (ls1 := [some _, some _]) (st1 := [_, _]) rfl ?_
    refine m_E.ict (by decide) rfl ?_
    refine m_E.run 1 (pc1 := 65) (ls1 := [some _, some _]) (st1 := [_]) rfl ?_
    refine m_E.gf HY.2.1 HY.1 rfl rfl ?_
    exact m_E.iret rfl ⟨by rw [← eG]; rfl, _, HY, okY, e1, e2, by rw [← eG]; rfl, cY⟩
