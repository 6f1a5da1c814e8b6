/-! the model's history -/
theorem m_mix2 {α : Type} {P Q : List α} {i : Nat} {d : α} (hp : i < P.length) (hq : P.length ≤ Q.length) : (P.take i ++ Q.drop i).set i (P.getD i d) = P.take (i + 1) ++ Q.drop (i + 1) := by
  have hl : (P.take i).length = i := by rw [List.length_take]; omega
  have e1 : Q.drop i = Q[i]'(by omega) :: Q.drop (i + 1) := List.drop_eq_getElem_cons (by omega)
  have e2 : P.take (i + 1) = P.take i ++ [P[i]] := by rw [List.take_add_one, List.getElem?_eq_getElem hp]; rfl
  have e3 : P.getD i d = P[i] := by rw [List.getD_eq_getElem?_getD, List.getElem?_eq_getElem hp]; rfl
  rw [e2, e3, List.set_append_right _ _ (by omega), hl, Nat.sub_self, e1, List.set_cons_zero, List.append_assoc]; rfl
def g_shift (hist : List Int32) : List Int32 := hist.drop 611 ++ hist.drop 1833
def g_into (hist : List Int32) (m : Nat) (row : List Int32) (i : Nat) : List Int32 := hist.take (611 * m) ++ (row.take i ++ (hist.drop (611 * m)).drop i)
theorem g_into_len {hist row : List Int32} {m i : Nat} (hl : hist.length = 2444) (hr : row.length = 611) (hm : m < 4) (hi : i ≤ 611) : (g_into hist m row i).length = 2444 := by
  rw [g_into, List.length_append, List.length_append, List.length_take, List.length_take, List.length_drop, List.length_drop]; omega
theorem g_into_set {hist row : List Int32} {m i : Nat} (hl : hist.length = 2444) (hr : row.length = 611) (hm : m < 4) (hi : i < 611) : (g_into hist m row i).set (m * 611 + i) (row.getD i 0) = g_into hist m row (i + 1) := by
  have h1 : (hist.take (611 * m)).length = m * 611 := by rw [List.length_take]; omega
  unfold g_into
  rw [List.set_append_right _ _ (by omega), h1, Nat.add_sub_cancel_left, m_mix2 (by omega) (by rw [List.length_drop]; omega)]
/-- a row put into the history -/
def g_hput (hist : List Int32) (m : Nat) (row : List Int32) : List Int32 := g_into hist m row 611
def d_push1 (M : c_M) (hist : List Int32) (m : Nat) : c_M := d_set_many (d_set_hist M (g_hput hist m (d_spare M))) (m + 1)
def d_push (M : c_M) : c_M := if d_many M = 4 then d_push1 M (g_shift (d_hist M)) 3 else d_push1 M (d_hist M) (d_many M)
theorem e_push {d : Nat} {M : c_M} {h : m_Hp} (H : Hmo h M) (ok : Okm M) : ∃ r h', m_Call m_P (d + 1) 103 [.ref 61] (h) r h' ∧ (fun r h2 => r = none ∧ Hmo h2 (d_push M) ∧ Chg 61 69 h h2) r h' := by
  refine m_call_ex (tab := tX6_push) (nL := 2) rfl rfl ?_
  obtain ⟨k1, k2, k3, k4, k5, k6, k7, k8, k9, k10⟩ := id ok
  have fin : ∀ hist m v, m < 4 → hist.length = 2444 → d_push M = d_push1 M hist m → ∀ h1, Hmo h1 (d_set_many (d_set_hist M hist) m) → Chg 61 69 h h1 → m_E (m_Call m_P d) tX6_push 49 [some (.ref 61), v] [] h1 (fun r h2 => r = none ∧ Hmo h2 (d_push M) ∧ Chg 61 69 h h2) := by
    intro hist m v hm hl ed h1 H1 c1
    rw [ed]
    refine m_E.run 2 (pc1 := 51) (ls1 := [some _, some _]) (st1 := []) rfl ?_
    refine m_E.lp (fun i ls hh => ls = [some (.ref 61), some (.int (nI i))] ∧ (Hmo hh (d_set_many (d_set_hist M (g_into hist m (d_spare M) i)) m) ∧ Chg 61 69 h hh)) 611 ?_ ?_ ?_
    · skip
      rintro i _ hh hi ⟨rfl, hI⟩ K
      obtain ⟨Hi, ci⟩ := hI
      have li := g_into_len (i := i) hl k2 hm (by omega)
      refine m_E.run 2 (pc1 := 55) (ls1 := [some _, some _]) (st1 := [_, _]) rfl ?_
      refine m_E.icf ((m_leI (by omega) (by omega)).trans (decide_eq_false (by omega))) rfl ?_
      refine m_E.run 1 (pc1 := 59) (ls1 := [some _, some _]) (st1 := [_]) rfl ?_
      refine m_E.gf Hi.o (by decide) rfl rfl ?_
      refine m_E.run 1 (pc1 := 63) (ls1 := [some _, some _]) (st1 := [_, _]) rfl ?_
      refine m_E.gf Hi.o (by decide) rfl rfl ?_
      refine m_E.run 5 (pc1 := 73) (ls1 := [some _, some _]) (st1 := [_, _, _]) rfl ?_
      dsimp only
      change m_E _ _ _ _ (_ :: .int (nI m * nI 611 + nI i) :: _) _ _
      rw [pk_mul, nI_add]
      refine m_E.gf Hi.o (by decide) rfl rfl ?_
      refine m_E.run 1 (pc1 := 77) (ls1 := [some _, some _]) (st1 := [_, _, _, _]) rfl ?_
      refine m_E.ild Hi.2.2.1 (Or.inl rfl) rfl (show i < (d_spare M).length by omega) (show (d_spare M).length < 2 ^ 31 by omega) rfl ?_
      refine m_E.ig Hi.2.2.2.1 (by decide) rfl (show m * 611 + i < (g_into hist m (d_spare M) i).length by omega) (show (g_into hist m (d_spare M) i).length < 2 ^ 31 by omega) rfl (fun h3 u3 => ?_)
      refine m_E.run 2 (pc1 := 51) (ls1 := [some _, some _]) (st1 := []) rfl ?_
      rw [nI_add]
      have H3 := Hi.w_hist u3
      refine K _ _ ⟨rfl, ?_, ci.tr (u3.chg (by decide) (by decide))⟩
      rw [← g_into_set hl k2 hm hi]
      exact H3
    · skip
      refine ⟨rfl, ?_, c1⟩
      have e0 : g_into hist m (d_spare M) 0 = hist := by rw [g_into, List.take_zero, List.drop_zero, List.nil_append, List.take_append_drop]
      rw [e0]; exact H1
    · skip
      rintro _ hh ⟨rfl, hI⟩
      obtain ⟨Hi, ci⟩ := hI
      refine m_E.run 2 (pc1 := 55) (ls1 := [some _, some _]) (st1 := [_, _]) rfl ?_
      refine m_E.ict (by decide) rfl ?_
      refine m_E.run 2 (pc1 := 87) (ls1 := [some _, some _]) (st1 := [_, _]) rfl ?_
      refine m_E.gf Hi.o (by decide) rfl rfl ?_
      refine m_E.run 2 (pc1 := 92) (ls1 := [some _, some _]) (st1 := [_, _]) rfl ?_
      dsimp only
      change m_E _ _ _ _ (.int (nI m + nI 1) :: _) _ _
      rw [nI_add]
      refine m_E.pg Hi.o (by decide) rfl (Nat.le_of_ble_eq_true rfl) rfl (fun h4 u4 => ?_)
      have H4 := Hi.obj (N := d_push1 M hist m) u4 rfl rfl rfl rfl rfl rfl rfl
      exact m_E.vret rfl ⟨rfl, H4, ci.tr (u4.chg (by decide) (by decide))⟩
  refine m_E.run 1 (pc1 := 1) (ls1 := [some _, none]) (st1 := [_]) rfl ?_
  refine m_E.gf H.o (by decide) rfl rfl ?_
  refine m_E.run 1 (pc1 := 5) (ls1 := [some _, none]) (st1 := [_, _]) rfl ?_
  by_cases e4 : d_many M = 4
  · skip
    refine m_E.icf ((m_neI (show d_many M < 2 ^ 31 by omega) (by omega)).trans (decide_eq_false (fun z => z e4))) rfl ?_
    refine m_E.run 2 (pc1 := 10) (ls1 := [some _, some _]) (st1 := []) rfl ?_
    refine m_E.lp (fun i ls hh => ls = [some (.ref 61), some (.int (nI i))] ∧ (Hmo hh (d_set_hist M (((d_hist M).drop 611).take i ++ (d_hist M).drop i)) ∧ Chg 61 69 h hh)) 1833 ?_ ?_ ?_
    · skip
      rintro i _ hh hi ⟨rfl, hI⟩ K
      obtain ⟨Hi, ci⟩ := hI
      have li : (((d_hist M).drop 611).take i ++ (d_hist M).drop i).length = 2444 := by rw [List.length_append, List.length_take, List.length_drop, List.length_drop]; omega
      refine m_E.run 2 (pc1 := 14) (ls1 := [some _, some _]) (st1 := [_, _]) rfl ?_
      refine m_E.icf ((m_leI (by omega) (by omega)).trans (decide_eq_false (by omega))) rfl ?_
      refine m_E.run 1 (pc1 := 18) (ls1 := [some _, some _]) (st1 := [_]) rfl ?_
      refine m_E.gf Hi.o (by decide) rfl rfl ?_
      refine m_E.run 2 (pc1 := 23) (ls1 := [some _, some _]) (st1 := [_, _, _]) rfl ?_
      refine m_E.gf Hi.o (by decide) rfl rfl ?_
      refine m_E.run 3 (pc1 := 31) (ls1 := [some _, some _]) (st1 := [_, _, _, _]) rfl ?_
      dsimp only
      rw [nI_add]
      refine m_E.ild Hi.2.2.2.1 (Or.inl rfl) rfl (show i + 611 < (((d_hist M).drop 611).take i ++ (d_hist M).drop i).length by omega) (show (((d_hist M).drop 611).take i ++ (d_hist M).drop i).length < 2 ^ 31 by omega) rfl ?_
      have ev : (((d_hist M).drop 611).take i ++ (d_hist M).drop i).getD (i + 611) 0 = ((d_hist M).drop 611).getD i 0 := by
        have hl2 : (((d_hist M).drop 611).take i).length = i := by rw [List.length_take, List.length_drop]; omega
        rw [List.getD_eq_getElem?_getD, List.getElem?_append_right (by omega), hl2, List.getElem?_drop, List.getD_eq_getElem?_getD, List.getElem?_drop, show i + (i + 611 - i) = 611 + i by omega]
      change m_E _ _ _ _ (.int ((((d_hist M).drop 611).take i ++ (d_hist M).drop i).getD (i + 611) 0) :: _) _ _
      rw [ev]
      refine m_E.ig Hi.2.2.2.1 (by decide) rfl (show i < (((d_hist M).drop 611).take i ++ (d_hist M).drop i).length by omega) (show (((d_hist M).drop 611).take i ++ (d_hist M).drop i).length < 2 ^ 31 by omega) rfl (fun h3 u3 => ?_)
      refine m_E.run 2 (pc1 := 10) (ls1 := [some _, some _]) (st1 := []) rfl ?_
      rw [nI_add]
      have H3 := Hi.w_hist u3
      refine K _ _ ⟨rfl, ?_, ci.tr (u3.chg (by decide) (by decide))⟩
      rw [← m_mix2 (P := (d_hist M).drop 611) (Q := d_hist M) (d := 0) (by rw [List.length_drop]; omega) (by rw [List.length_drop]; omega)]
      exact H3
    · skip
      exact ⟨rfl, by rw [List.take_zero, List.drop_zero, List.nil_append]; exact H, Chg.rf⟩
    · skip
      rintro _ hh ⟨rfl, hI⟩
      obtain ⟨Hi, ci⟩ := hI
      rw [List.take_of_length_le (by rw [List.length_drop]; omega)] at Hi
      change Hmo hh (d_set_hist M (g_shift (d_hist M))) at Hi
      refine m_E.run 2 (pc1 := 14) (ls1 := [some _, some _]) (st1 := [_, _]) rfl ?_
      refine m_E.ict (by decide) rfl ?_
      refine m_E.run 2 (pc1 := 41) (ls1 := [some _, some _]) (st1 := [_, _]) rfl ?_
      refine m_E.gf Hi.o (by decide) rfl rfl ?_
      refine m_E.run 2 (pc1 := 46) (ls1 := [some _, some _]) (st1 := [_, _]) rfl ?_
      dsimp only
      change m_E _ _ _ _ (.int (nI (d_many M) - nI 1) :: _) _ _
      rw [e4, pk_sub (by decide)]
      refine m_E.pg Hi.o (by decide) rfl (Nat.le_of_ble_eq_true rfl) rfl (fun h4 u4 => ?_)
      have H4 := Hi.obj (N := d_set_many (d_set_hist M (g_shift (d_hist M))) 3) u4 rfl rfl rfl rfl rfl rfl rfl
      exact fin (g_shift (d_hist M)) 3 _ (by decide) (by rw [g_shift, List.length_append, List.length_drop, List.length_drop]; omega) (by rw [d_push, if_pos e4]) h4 H4 (ci.tr (u4.chg (by decide) (by decide)))
  · skip
    refine m_E.ict ((m_neI (show d_many M < 2 ^ 31 by omega) (by omega)).trans (decide_eq_true e4)) rfl ?_
    exact fin (d_hist M) (d_many M) _ (by omega) k3 (by rw [d_push, if_neg e4]) h H Chg.rf
