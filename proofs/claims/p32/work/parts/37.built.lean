/-! what is built: the heap as what was there and a list of new cells -/
section
variable {C : m_CR} {tab : m_Tab} {pc : Nat} {ls : m_Ls} {st : List Value} {P cells : m_Hp} {Q : Option Value → m_Hp → Prop} {k ci ty : Nat}
theorem m_lk (hP : P.length = k) (j : Nat) : (P ++ cells)[k + j]? = cells[j]? := by
  rw [List.getElem?_append_right (by omega)]; congr 1; omega
theorem m_lk0 {j : Nat} (hj : j < P.length) : (P ++ cells)[j]? = P[j]? := List.getElem?_append_left hj
theorem m_stP (hP : P.length = k) (j : Nat) (c : m_Cel) : (P ++ cells).set (k + j) c = P ++ cells.set j c := by
  rw [List.set_append_right _ _ (by omega)]; congr 2; omega
theorem m_E.newP (hP : P.length = k) {fs : List Value} (e1 : m_at tab pc = some (m_new ci fs)) (kk : m_E C tab (pc + 3) ls (.ref (k + cells.length) :: st) (P ++ (cells ++ [.inr (.inl (ci, fs))])) Q) : m_E C tab pc ls st (P ++ cells) Q := by
  refine m_E.op e1 rfl ?_
  rw [List.append_assoc, List.length_append, hP]; exact kk
theorem m_E.narP {t j : Nat} {i : Int32} (hP : P.length = k) (hi : i = nI j) (hj : j ≤ 100000) (e1 : m_at tab pc = some (m_nar t)) (kk : m_E C tab (pc + 2) ls (.ref (k + cells.length) :: st) (P ++ (cells ++ [.inl (t, List.replicate j 0)])) Q) : m_E C tab pc ls (.int i :: st) (P ++ cells) Q := by
  subst hi
  refine m_E.op e1 ?_ (by rw [← List.append_assoc, ← hP, ← List.length_append] at kk; exact kk)
  unfold m_nar
  dsimp only
  rw [if_neg (by rw [m_cl (by omega)]; intro z; rcases z with z | z; exact m_cbl (by omega) z; omega), m_cl (by omega)]
theorem m_E.anarP {t j : Nat} {i : Int32} (hP : P.length = k) (hi : i = nI j) (hj : j ≤ 100000) (e1 : m_at tab pc = some (m_anar t)) (kk : m_E C tab (pc + 3) ls (.ref (k + cells.length) :: st) (P ++ (cells ++ [.inr (.inr (t, List.replicate j none))])) Q) : m_E C tab pc ls (.int i :: st) (P ++ cells) Q := by
  subst hi
  refine m_E.op e1 ?_ (by rw [← List.append_assoc, ← hP, ← List.length_append] at kk; exact kk)
  unfold m_anar
  dsimp only
  rw [if_neg (by rw [m_cl (by omega)]; intro z; rcases z with z | z; exact m_cbl (by omega) z; omega), m_cl (by omega)]
theorem m_E.putP {j n : Nat} {v : Value} {fs : List Value} (hP : P.length = k) (h3 : 3 < k) (hc : cells[j]? = some (.inr (.inl (ci, fs)))) (hf : m_fit ty v = true) (hn : n < fs.length) (e1 : m_at tab pc = some (m_put ci n ty)) (kk : m_E C tab (pc + 3) ls st (P ++ cells.set j (.inr (.inl (ci, fs.set n v)))) Q) : m_E C tab pc ls (v :: .ref (k + j) :: st) (P ++ cells) Q :=
  m_E.put ((m_lk hP j).trans hc) (by omega) hf hn e1 (by rw [m_stP hP]; exact kk)
end
def s_pk (k : Nat) : List m_Cel := [.inr (.inl (1, [.ref (k + 1), .null, .int (nI 0)])), .inl (0, List.replicate 24 0)]
theorem c_pkNew {d : Nat} {k : Nat} {P : m_Hp} (hP : P.length = k) (h3 : 3 < k) : m_Call m_P (d + 1) 4 [.ref k] (P ++ [.inr (.inl (1, [.null, .null, .int 0]))]) (none) (P ++ s_pk k) := by
  refine m_call_of (tab := tX1_init) (nL := 1) rfl rfl ?_
  refine m_E.run 4 (pc1 := 7) (ls1 := [some _]) (st1 := [_, _]) rfl ?_
  refine m_E.narP (j := 24) hP rfl (by decide) rfl ?_
  refine m_E.putP (j := 0) hP h3 rfl rfl (Nat.le_of_ble_eq_true rfl) rfl ?_
  refine m_E.run 2 (pc1 := 14) (ls1 := [some _]) (st1 := [_, _]) rfl ?_
  refine m_E.putP (j := 0) hP h3 rfl rfl (Nat.le_of_ble_eq_true rfl) rfl ?_
  refine m_E.run 2 (pc1 := 19) (ls1 := [some _]) (st1 := [_, _]) rfl ?_
  refine m_E.putP (j := 0) hP h3 rfl rfl (Nat.le_of_ble_eq_true rfl) rfl ?_
  exact m_E.vret rfl ⟨rfl, rfl⟩
def c_S0 : c_St := c_mk (List.range 24) (List.replicate 24 0) (List.replicate 24 0) [10, 3, 4, 12] (List.replicate 6 none) (List.replicate 24 0) none 0 0 0 0 0 0
def s_cells (k : Nat) : List m_Cel := [.inr (.inl (3, c_flds k c_S0)), .inl (0, (c_cards c_S0).map nI), .inl (0, c_leans c_S0), .inl (0, (c_backs c_S0).map nI), .inl (0, (c_settings c_S0).map nI), .inr (.inr (2, c_pile c_S0)), .inr (.inl (1, [.ref (k + 7), m_rf (c_fr c_S0), .int (nI (c_dealt c_S0))])), .inl (0, (c_order c_S0).map nI)]
def s_st : m_Cel := .inr (.inl (3, [.null, .null, .null, .null, .null, .null, .int 0, .int 0, .int 0, .int 0, .int 0]))
def g_rng (i : Nat) : List Nat := List.range i ++ List.replicate (24 - i) 0
theorem g_rng_set : ∀ i, i < 24 → (g_rng i).set i i = g_rng (i + 1) := by decide
theorem g_rng_len : ∀ i, i < 25 → (g_rng i).length = 24 := by decide
def g_fst (i : Nat) : List Nat := [10, 3, 4, 12].take i ++ List.replicate (4 - i) 0
theorem g_fst_set : ∀ i, i < 4 → (g_fst i).set i ([10, 3, 4, 12].getD i 0) = g_fst (i + 1) := by decide
theorem g_fst_len : ∀ i, i < 5 → (g_fst i).length = 4 := by decide
theorem g_fst_get : ∀ i, i < 4 → ([nI 10, nI 3, nI 4, nI 12] : List Int32).getD i 0 = nI (([10, 3, 4, 12] : List Nat).getD i 0) := by decide +kernel
theorem c_stNew {d : Nat} {k : Nat} {P : m_Hp} (hP : P.length = k) (h3 : 3 < k) (h0 : P[0]? = some (.inl (0, [nI 10, nI 3, nI 4, nI 12]))) : m_Call m_P (d + 3) 25 [.ref k] (P ++ [s_st]) (none) (P ++ s_cells k) := by
  refine m_call_of (tab := tX3_init) (nL := 2) rfl rfl ?_
  refine m_E.run 4 (pc1 := 7) (ls1 := [some _, none]) (st1 := [_, _]) rfl ?_
  refine m_E.narP (j := 24) hP rfl (by decide) rfl ?_
  refine m_E.putP (j := 0) hP h3 rfl rfl (Nat.le_of_ble_eq_true rfl) rfl ?_
  refine m_E.run 2 (pc1 := 15) (ls1 := [some _, none]) (st1 := [_, _]) rfl ?_
  refine m_E.narP (j := 24) hP rfl (by decide) rfl ?_
  refine m_E.putP (j := 0) hP h3 rfl rfl (Nat.le_of_ble_eq_true rfl) rfl ?_
  refine m_E.run 2 (pc1 := 23) (ls1 := [some _, none]) (st1 := [_, _]) rfl ?_
  refine m_E.narP (j := 24) hP rfl (by decide) rfl ?_
  refine m_E.putP (j := 0) hP h3 rfl rfl (Nat.le_of_ble_eq_true rfl) rfl ?_
  refine m_E.run 2 (pc1 := 30) (ls1 := [some _, none]) (st1 := [_, _]) rfl ?_
  refine m_E.narP (j := 4) hP rfl (by decide) rfl ?_
  refine m_E.putP (j := 0) hP h3 rfl rfl (Nat.le_of_ble_eq_true rfl) rfl ?_
  refine m_E.run 2 (pc1 := 38) (ls1 := [some _, none]) (st1 := [_, _]) rfl ?_
  refine m_E.anarP (j := 6) hP rfl (by decide) rfl ?_
  refine m_E.putP (j := 0) hP h3 rfl rfl (Nat.le_of_ble_eq_true rfl) rfl ?_
  refine m_E.run 1 (pc1 := 45) (ls1 := [some _, none]) (st1 := [_]) rfl ?_
  refine m_E.newP hP rfl ?_
  refine m_E.run 1 (pc1 := 49) (ls1 := [some _, none]) (st1 := [_, _, _]) rfl ?_
  change m_E _ _ _ _ (.ref (k + 6) :: .ref (k + 6) :: _) (P ++ ([.inr (.inl (3, [.ref (k + 1), .ref (k + 2), .ref (k + 3), .ref (k + 4), .ref (k + 5), .null, .int 0, .int 0, .int 0, .int 0, .int 0])), .inl (0, List.replicate 24 0), .inl (0, List.replicate 24 0), .inl (0, List.replicate 24 0), .inl (0, List.replicate 4 0), .inr (.inr (2, List.replicate 6 none))] ++ [.inr (.inl (1, [.null, .null, .int 0]))])) _
  rw [← List.append_assoc]
  refine m_E.on (m_lk (k := k + 6) (by rw [List.length_append, hP]; rfl) 0) (by omega) rfl rfl rfl (c_pkNew (k := k + 6) (by rw [List.length_append, hP]; rfl) (by omega)) ?_
  rw [List.append_assoc]
  refine m_E.putP (j := 0) hP h3 rfl rfl (Nat.le_of_ble_eq_true rfl) rfl ?_
  refine m_E.run 2 (pc1 := 57) (ls1 := [some _, none]) (st1 := [_, _]) rfl ?_
  refine m_E.putP (j := 0) hP h3 rfl rfl (Nat.le_of_ble_eq_true rfl) rfl ?_
  refine m_E.run 2 (pc1 := 62) (ls1 := [some _, none]) (st1 := [_, _]) rfl ?_
  refine m_E.putP (j := 0) hP h3 rfl rfl (Nat.le_of_ble_eq_true rfl) rfl ?_
  refine m_E.run 2 (pc1 := 67) (ls1 := [some _, none]) (st1 := [_, _]) rfl ?_
  refine m_E.putP (j := 0) hP h3 rfl rfl (Nat.le_of_ble_eq_true rfl) rfl ?_
  refine m_E.run 2 (pc1 := 72) (ls1 := [some _, none]) (st1 := [_, _]) rfl ?_
  refine m_E.putP (j := 0) hP h3 rfl rfl (Nat.le_of_ble_eq_true rfl) rfl ?_
  refine m_E.run 2 (pc1 := 77) (ls1 := [some _, none]) (st1 := [_, _]) rfl ?_
  refine m_E.putP (j := 0) hP h3 rfl rfl (Nat.le_of_ble_eq_true rfl) rfl ?_
  refine m_E.run 2 (pc1 := 82) (ls1 := [some _, some _]) (st1 := []) rfl ?_
  change m_E _ _ _ _ _ (P ++ [.inr (.inl (3, c_flds k c_S0)), .inl (0, (g_rng 0).map nI), .inl (0, c_leans c_S0), .inl (0, (c_backs c_S0).map nI), .inl (0, List.replicate 4 0), .inr (.inr (2, c_pile c_S0)), .inr (.inl (1, [.ref (k + 7), m_rf (c_fr c_S0), .int (nI (c_dealt c_S0))])), .inl (0, (c_order c_S0).map nI)]) _
  refine m_E.lp (fun i ls hh => ls = [some (.ref k), some (.int (nI i))] ∧ (hh = P ++ [.inr (.inl (3, c_flds k c_S0)), .inl (0, (g_rng i).map nI), .inl (0, c_leans c_S0), .inl (0, (c_backs c_S0).map nI), .inl (0, List.replicate 4 0), .inr (.inr (2, c_pile c_S0)), .inr (.inl (1, [.ref (k + 7), m_rf (c_fr c_S0), .int (nI (c_dealt c_S0))])), .inl (0, (c_order c_S0).map nI)])) 24 ?_ ?_ ?_
  · skip
    rintro i _ hh hi ⟨rfl, hI⟩ K
    subst hI
    have gl := g_rng_len i (by omega)
    refine m_E.run 2 (pc1 := 85) (ls1 := [some _, some _]) (st1 := [_, _]) rfl ?_
    refine m_E.icf ((m_leI (by omega) (by omega)).trans (decide_eq_false (by omega))) rfl ?_
    refine m_E.run 1 (pc1 := 89) (ls1 := [some _, some _]) (st1 := [_]) rfl ?_
    refine m_E.gf (m_lk hP 0) h3 rfl rfl ?_
    refine m_E.run 2 (pc1 := 94) (ls1 := [some _, some _]) (st1 := [_, _, _]) rfl ?_
    refine m_E.ist (m_lk hP 1) (by omega) rfl (by rw [List.length_map]; omega) (by rw [List.length_map]; omega) rfl ?_
    rw [m_map_set, m_stP hP, g_rng_set i hi]
    refine m_E.run 2 (pc1 := 82) (ls1 := [some _, some _]) (st1 := []) rfl ?_
    rw [nI_add]
    exact K _ _ ⟨rfl, rfl⟩
  · skip
    exact ⟨rfl, rfl⟩
  · skip
    rintro _ hh ⟨rfl, hI⟩
    subst hI
    refine m_E.run 2 (pc1 := 85) (ls1 := [some _, some _]) (st1 := [_, _]) rfl ?_
    refine m_E.ict (by decide) rfl ?_
    refine m_E.run 2 (pc1 := 103) (ls1 := [some _, some _]) (st1 := []) rfl ?_
    change m_E _ _ _ _ _ (P ++ [.inr (.inl (3, c_flds k c_S0)), .inl (0, (c_cards c_S0).map nI), .inl (0, c_leans c_S0), .inl (0, (c_backs c_S0).map nI), .inl (0, (g_fst 0).map nI), .inr (.inr (2, c_pile c_S0)), .inr (.inl (1, [.ref (k + 7), m_rf (c_fr c_S0), .int (nI (c_dealt c_S0))])), .inl (0, (c_order c_S0).map nI)]) _
    refine m_E.lp (fun i ls hh => ls = [some (.ref k), some (.int (nI i))] ∧ (hh = P ++ [.inr (.inl (3, c_flds k c_S0)), .inl (0, (c_cards c_S0).map nI), .inl (0, c_leans c_S0), .inl (0, (c_backs c_S0).map nI), .inl (0, (g_fst i).map nI), .inr (.inr (2, c_pile c_S0)), .inr (.inl (1, [.ref (k + 7), m_rf (c_fr c_S0), .int (nI (c_dealt c_S0))])), .inl (0, (c_order c_S0).map nI)])) 4 ?_ ?_ ?_
    · skip
      rintro i _ hh hi ⟨rfl, hI⟩ K
      subst hI
      have gl := g_fst_len i (by omega)
      refine m_E.run 2 (pc1 := 105) (ls1 := [some _, some _]) (st1 := [_, _]) rfl ?_
      refine m_E.icf ((m_leI (by omega) (by omega)).trans (decide_eq_false (by omega))) rfl ?_
      refine m_E.run 1 (pc1 := 109) (ls1 := [some _, some _]) (st1 := [_]) rfl ?_
      refine m_E.gf (m_lk hP 0) h3 rfl rfl ?_
      refine m_E.run 3 (pc1 := 117) (ls1 := [some _, some _]) (st1 := [_, _, _, _]) rfl ?_
      refine m_E.cv rfl rfl (c_at ((m_lk0 (by omega)).trans h0) rfl hi (by decide)) ?_
      refine m_E.ist (m_lk hP 4) (by omega) rfl (by rw [List.length_map]; omega) (by rw [List.length_map]; omega) rfl ?_
      rw [g_fst_get i hi, m_map_set, m_stP hP, g_fst_set i hi]
      refine m_E.run 2 (pc1 := 103) (ls1 := [some _, some _]) (st1 := []) rfl ?_
      rw [nI_add]
      exact K _ _ ⟨rfl, rfl⟩
    · skip
      exact ⟨rfl, rfl⟩
    · skip
      rintro _ hh ⟨rfl, hI⟩
      subst hI
      refine m_E.run 2 (pc1 := 105) (ls1 := [some _, some _]) (st1 := [_, _]) rfl ?_
      refine m_E.ict (by decide) rfl ?_
      exact m_E.vret rfl ⟨rfl, rfl⟩
