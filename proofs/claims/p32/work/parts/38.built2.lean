def x_X0 : c_Tx := x_mk (List.replicate 60 0) 0 0 (List.replicate 12 0) (List.replicate 12 0) (List.replicate 12 0) 0
def x_cells (k : Nat) : List m_Cel := [.inr (.inl (4, x_flds k x_X0)), .inl (1, (x_signs x_X0).map nI), .inl (1, (x_kinds x_X0).map nI), .inl (0, (x_firsts x_X0).map nI), .inl (0, x_seconds x_X0)]
def x_new : m_Cel := .inr (.inl (4, [.null, .int 0, .int 0, .null, .null, .null, .int 0]))
theorem c_txNew {d : Nat} {k : Nat} {P : m_Hp} (hP : P.length = k) (h3 : 3 < k) : m_Call m_P (d + 1) 38 [.ref k] (P ++ [x_new]) (none) (P ++ x_cells k) := by
  refine m_call_of (tab := tX4_init) (nL := 1) rfl rfl ?_
  refine m_E.run 4 (pc1 := 7) (ls1 := [some _]) (st1 := [_, _]) rfl ?_
  refine m_E.narP (j := 60) hP rfl (by decide) rfl ?_
  refine m_E.putP (j := 0) hP h3 rfl rfl (Nat.le_of_ble_eq_true rfl) rfl ?_
  refine m_E.run 2 (pc1 := 14) (ls1 := [some _]) (st1 := [_, _]) rfl ?_
  refine m_E.putP (j := 0) hP h3 rfl rfl (Nat.le_of_ble_eq_true rfl) rfl ?_
  refine m_E.run 2 (pc1 := 19) (ls1 := [some _]) (st1 := [_, _]) rfl ?_
  refine m_E.putP (j := 0) hP h3 rfl rfl (Nat.le_of_ble_eq_true rfl) rfl ?_
  refine m_E.run 2 (pc1 := 25) (ls1 := [some _]) (st1 := [_, _]) rfl ?_
  refine m_E.narP (j := 12) hP rfl (by decide) rfl ?_
  refine m_E.putP (j := 0) hP h3 rfl rfl (Nat.le_of_ble_eq_true rfl) rfl ?_
  refine m_E.run 2 (pc1 := 33) (ls1 := [some _]) (st1 := [_, _]) rfl ?_
  refine m_E.narP (j := 12) hP rfl (by decide) rfl ?_
  refine m_E.putP (j := 0) hP h3 rfl rfl (Nat.le_of_ble_eq_true rfl) rfl ?_
  refine m_E.run 2 (pc1 := 41) (ls1 := [some _]) (st1 := [_, _]) rfl ?_
  refine m_E.narP (j := 12) hP rfl (by decide) rfl ?_
  refine m_E.putP (j := 0) hP h3 rfl rfl (Nat.le_of_ble_eq_true rfl) rfl ?_
  refine m_E.run 2 (pc1 := 48) (ls1 := [some _]) (st1 := [_, _]) rfl ?_
  refine m_E.putP (j := 0) hP h3 rfl rfl (Nat.le_of_ble_eq_true rfl) rfl ?_
  exact m_E.vret rfl ⟨rfl, rfl⟩
def h_sts (k : Nat) : Nat → List m_Cel
  | 0 => []
  | i + 1 => h_sts k i ++ s_cells (k + 2 + 8 * i)
theorem h_sts_len (k : Nat) : ∀ i, (h_sts k i).length = 8 * i
  | 0 => rfl
  | i + 1 => by rw [h_sts, List.length_append, h_sts_len k i]; rfl
def h_row (k i : Nat) : List (Option Nat) := (List.range 4).map fun j => if j < i then some (k + 2 + 8 * j) else none
theorem h_row_set (k i : Nat) (hi : i < 4) : (h_row k i).set i (some (k + 2 + 8 * i)) = h_row k (i + 1) := by
  match i, hi with
  | 0, _ => rfl
  | 1, _ => rfl
  | 2, _ => rfl
  | 3, _ => rfl
def h_new : m_Cel := .inr (.inl (0, [.null, .int 0, .int 0]))
def h_cells (k i : Nat) : List m_Cel := [.inr (.inl (0, [.ref (k + 1), .int (nI 0), .int (nI 0)])), .inr (.inr (3, h_row k i))] ++ h_sts k i
theorem h_cells_len (k i : Nat) : (h_cells k i).length = 2 + 8 * i := by rw [h_cells, List.length_append, h_sts_len]; rfl
theorem c_hiNew {d : Nat} {k : Nat} {P : m_Hp} (hP : P.length = k) (h3 : 3 < k) (h0 : P[0]? = some (.inl (0, [nI 10, nI 3, nI 4, nI 12]))) : m_Call m_P (d + 4) 0 [.ref k] (P ++ [h_new]) (none) (P ++ h_cells k 4) := by
  refine m_call_of (tab := tX0_init) (nL := 2) rfl rfl ?_
  refine m_E.run 4 (pc1 := 6) (ls1 := [some _, none]) (st1 := [_, _]) rfl ?_
  refine m_E.anarP (j := 4) hP rfl (by decide) rfl ?_
  refine m_E.putP (j := 0) hP h3 rfl rfl (Nat.le_of_ble_eq_true rfl) rfl ?_
  refine m_E.run 2 (pc1 := 14) (ls1 := [some _, none]) (st1 := [_, _]) rfl ?_
  refine m_E.putP (j := 0) hP h3 rfl rfl (Nat.le_of_ble_eq_true rfl) rfl ?_
  refine m_E.run 2 (pc1 := 19) (ls1 := [some _, none]) (st1 := [_, _]) rfl ?_
  refine m_E.putP (j := 0) hP h3 rfl rfl (Nat.le_of_ble_eq_true rfl) rfl ?_
  refine m_E.run 2 (pc1 := 24) (ls1 := [some _, some _]) (st1 := []) rfl ?_
  refine m_E.lp (fun i ls hh => ls = [some (.ref k), some (.int (nI i))] ∧ (hh = P ++ h_cells k i)) 4 ?_ ?_ ?_
  · skip
    rintro i _ hh hi ⟨rfl, hI⟩ K
    subst hI
    refine m_E.run 2 (pc1 := 26) (ls1 := [some _, some _]) (st1 := [_, _]) rfl ?_
    refine m_E.icf ((m_leI (by omega) (by omega)).trans (decide_eq_false (by omega))) rfl ?_
    refine m_E.run 1 (pc1 := 30) (ls1 := [some _, some _]) (st1 := [_]) rfl ?_
    refine m_E.gf (m_lk hP 0) h3 rfl rfl ?_
    refine m_E.run 1 (pc1 := 34) (ls1 := [some _, some _]) (st1 := [_, _]) rfl ?_
    refine m_E.newP hP rfl ?_
    rw [h_cells_len, show k + (2 + 8 * i) = k + 2 + 8 * i by omega, ← List.append_assoc]
    refine m_E.run 1 (pc1 := 38) (ls1 := [some _, some _]) (st1 := [_, _, _, _]) rfl ?_
    have hP2 : (P ++ h_cells k i).length = k + 2 + 8 * i := by rw [List.length_append, hP, h_cells_len]; omega
    refine m_E.on (m_lk hP2 0) (by omega) rfl rfl rfl (c_stNew (d := d) hP2 (by omega) ((m_lk0 (by omega)).trans h0)) ?_
    have ho : (P ++ h_cells k i ++ s_cells (k + 2 + 8 * i))[k + 2 + 8 * i]? = some (.inr (.inl (3, c_flds (k + 2 + 8 * i) c_S0))) := m_lk (cells := s_cells (k + 2 + 8 * i)) hP2 0
    have hr : (P ++ h_cells k i ++ s_cells (k + 2 + 8 * i))[k + 1]? = some (.inr (.inr (3, h_row k i))) := by rw [List.append_assoc]; exact m_lk hP 1
    change m_E _ _ _ _ (m_rf (some (k + 2 + 8 * i)) :: _) _ _
    refine m_E.ast hr (by omega) rfl (show i < 4 from hi) (show 4 < 2 ^ 31 by decide) (fun b e => by cases e; exact ⟨by omega, _, ho⟩) rfl ?_
    rw [h_row_set k i hi, List.append_assoc, m_stP hP]
    refine m_E.run 2 (pc1 := 24) (ls1 := [some _, some _]) (st1 := []) rfl ?_
    rw [nI_add]
    exact K _ _ ⟨rfl, rfl⟩
  · skip
    exact ⟨rfl, rfl⟩
  · skip
    rintro _ hh ⟨rfl, hI⟩
    subst hI
    refine m_E.run 2 (pc1 := 26) (ls1 := [some _, some _]) (st1 := [_, _]) rfl ?_
    refine m_E.ict (by decide) rfl ?_
    exact m_E.vret rfl ⟨rfl, rfl⟩
def x_obj (kept : Bool) : m_Cel := .inr (.inl (5, [.ref 5, .ref 13, .ref 21, .ref 55, .ref 60, .int (m_bI kept)]))
def o_cells : List m_Cel := [x_obj false] ++ s_cells 5 ++ s_cells 13 ++ h_cells 21 4 ++ x_cells 55 ++ [.inl (0, List.replicate 24 0)]
theorem c_new {d : Nat} {P : m_Hp} (hP : P.length = 4) (h0 : P[0]? = some (.inl (0, [nI 10, nI 3, nI 4, nI 12]))) : m_Call m_P (d + 5) 39 [.ref 4] (P ++ [.inr (.inl (5, [.null, .null, .null, .null, .null, .int 0]))]) (none) (P ++ o_cells) := by
  refine m_call_of (tab := tX5_init) (nL := 1) rfl rfl ?_
  refine m_E.run 3 (pc1 := 5) (ls1 := [some _]) (st1 := [_]) rfl ?_
  refine m_E.newP hP rfl ?_
  refine m_E.run 1 (pc1 := 9) (ls1 := [some _]) (st1 := [_, _, _]) rfl ?_
  have q1 : ∀ c : m_Cel, (P ++ [c]).length = 5 := fun c => by rw [List.length_append, hP]; rfl
  rw [← List.append_assoc]
  refine m_E.on (m_lk (q1 _) 0) (by decide) rfl rfl rfl (c_stNew (d := d + 1) (k := 5) (q1 _) (by decide) ((m_lk0 (by omega)).trans h0)) ?_
  rw [List.append_assoc]
  refine m_E.putP (j := 0) hP (by decide) rfl rfl (Nat.le_of_ble_eq_true rfl) rfl ?_
  refine m_E.run 1 (pc1 := 16) (ls1 := [some _]) (st1 := [_]) rfl ?_
  refine m_E.newP hP rfl ?_
  refine m_E.run 1 (pc1 := 20) (ls1 := [some _]) (st1 := [_, _, _]) rfl ?_
  change m_E _ _ _ _ (.ref 13 :: .ref 13 :: _) (P ++ ([.inr (.inl (5, [.ref 5, .null, .null, .null, .null, .int 0]))] ++ s_cells 5 ++ [s_st])) _
  rw [← List.append_assoc]
  have q2 : ∀ c : m_Cel, (P ++ ([c] ++ s_cells 5)).length = 13 := fun c => by rw [List.length_append, hP]; rfl
  refine m_E.on (m_lk (q2 _) 0) (by decide) rfl rfl rfl (c_stNew (d := d + 1) (k := 13) (q2 _) (by decide) ((m_lk0 (by omega)).trans h0)) ?_
  rw [List.append_assoc]
  refine m_E.putP (j := 0) hP (by decide) rfl rfl (Nat.le_of_ble_eq_true rfl) rfl ?_
  refine m_E.run 1 (pc1 := 27) (ls1 := [some _]) (st1 := [_]) rfl ?_
  refine m_E.newP hP rfl ?_
  refine m_E.run 1 (pc1 := 31) (ls1 := [some _]) (st1 := [_, _, _]) rfl ?_
  change m_E _ _ _ _ (.ref 21 :: .ref 21 :: _) (P ++ ([.inr (.inl (5, [.ref 5, .ref 13, .null, .null, .null, .int 0]))] ++ s_cells 5 ++ s_cells 13 ++ [h_new])) _
  rw [← List.append_assoc]
  have q3 : ∀ c : m_Cel, (P ++ ([c] ++ s_cells 5 ++ s_cells 13)).length = 21 := fun c => by rw [List.length_append, hP]; rfl
  refine m_E.on (m_lk (q3 _) 0) (by decide) rfl rfl rfl (c_hiNew (d := d) (k := 21) (q3 _) (by decide) ((m_lk0 (by omega)).trans h0)) ?_
  rw [List.append_assoc]
  refine m_E.putP (j := 0) hP (by decide) rfl rfl (Nat.le_of_ble_eq_true rfl) rfl ?_
  refine m_E.run 1 (pc1 := 38) (ls1 := [some _]) (st1 := [_]) rfl ?_
  refine m_E.newP hP rfl ?_
  refine m_E.run 1 (pc1 := 42) (ls1 := [some _]) (st1 := [_, _, _]) rfl ?_
  change m_E _ _ _ _ (.ref 55 :: .ref 55 :: _) (P ++ ([.inr (.inl (5, [.ref 5, .ref 13, .ref 21, .null, .null, .int 0]))] ++ s_cells 5 ++ s_cells 13 ++ h_cells 21 4 ++ [x_new])) _
  rw [← List.append_assoc]
  have q4 : ∀ c : m_Cel, (P ++ ([c] ++ s_cells 5 ++ s_cells 13 ++ h_cells 21 4)).length = 55 := fun c => by rw [List.length_append, hP]; rfl
  refine m_E.on (m_lk (q4 _) 0) (by decide) rfl rfl rfl (c_txNew (d := d + 3) (k := 55) (q4 _) (by decide)) ?_
  rw [List.append_assoc]
  refine m_E.putP (j := 0) hP (by decide) rfl rfl (Nat.le_of_ble_eq_true rfl) rfl ?_
  refine m_E.run 2 (pc1 := 51) (ls1 := [some _]) (st1 := [_, _]) rfl ?_
  refine m_E.narP (j := 24) hP rfl (by decide) rfl ?_
  refine m_E.putP (j := 0) hP (by decide) rfl rfl (Nat.le_of_ble_eq_true rfl) rfl ?_
  refine m_E.run 2 (pc1 := 58) (ls1 := [some _]) (st1 := [_, _]) rfl ?_
  refine m_E.putP (j := 0) hP (by decide) rfl rfl (Nat.le_of_ble_eq_true rfl) rfl ?_
  exact m_E.vret rfl ⟨rfl, rfl⟩
