/-! the law's small statics -/
theorem y_smod : ∀ e, e < 32 → ((nI e &&& 31).toBitVec.smod 32).toNat = e := by decide +kernel
theorem y_m31 : (2147483647 : Int32).toBitVec.toNat = 2 ^ 31 - 1 := by decide +kernel
/-- what low answers -/
def y_lw (v : Int32) (n : Nat) : Nat := v.toBitVec.toNat % 2 ^ 31 % n
theorem y_lw_lt (v : Int32) {n : Nat} (h : 0 < n) : y_lw v n < n := Nat.mod_lt _ h
theorem y_low {d : Nat} {n : Nat} {v x : Int32} {h : m_Hp} (hx : x = nI n) (h0 : 0 < n) (h1 : n < 1000) : m_Call m_P (d + 1) 74 [.int v, .int x] (h) (some (.int (nI (y_lw v n)))) (h) := by
  refine m_call_of (tab := tL_low) (nL := 2) rfl rfl ?_
  subst hx
  have l := Nat.mod_lt v.toBitVec.toNat (show 0 < 2 ^ 31 by decide)
  refine m_E.run 4 (pc1 := 5) (ls1 := [some _, some _]) (st1 := [_, _]) rfl ?_
  dsimp only
  rw [pk_and v 31 y_m31]
  refine m_E.div (m_ne0 h0 (by omega)) rfl ?_
  rw [m_rem l n h0 (by omega)]
  exact m_E.iret rfl ⟨rfl, rfl⟩
theorem y_cell {d : Nat} {k : Nat} {i : Int32} {xs : List Int32} {h : m_Hp} (hs : h[3]? = some (.inl (0, xs))) (hx : xs.length ≤ 260) (hi : i = nI k) (hk : k < 100) : ∃ r h', m_Call m_P (d + 1) 73 [.ref 3, .int i] (h) r h' ∧ (fun r h2 => (∃ x, r = some (.int x)) ∧ h2 = h) r h' := by
  refine m_call_ex (tab := tL_cell) (nL := 2) rfl rfl ?_
  subst hi
  refine m_E.run 2 (pc1 := 2) (ls1 := [some _, some _]) (st1 := [_, _]) rfl ?_
  refine m_E.len hs (by decide) rfl ?_
  refine m_E.ic2 rfl (fun q1 => ?_) (fun q1 => ?_)
  · skip
    refine m_E.run 7 (pc1 := 22) (ls1 := [some _, some _]) (st1 := [_]) rfl ?_
    dsimp only
    exact m_E.iret rfl ⟨⟨_, rfl⟩, rfl⟩
  · skip
    have z := of_decide_eq_false ((m_leI (by omega) (by omega)).symm.trans q1)
    refine m_E.run 2 (pc1 := 8) (ls1 := [some _, some _]) (st1 := [_, _]) rfl ?_
    refine m_E.ild hs (j := k) (Or.inl rfl) rfl (by omega) (by omega) rfl ?_
    refine m_E.run 1 (pc1 := 22) (ls1 := [some _, some _]) (st1 := [_]) rfl ?_
    exact m_E.iret rfl ⟨⟨_, rfl⟩, rfl⟩
def y_cl (v : Nat) : Nat → Nat
  | 0 => v
  | i + 1 => y_cl v i &&& (y_cl v i - 1)
theorem y_cl_ok : ∀ v, v < 16 → (∀ i, i < g_pop v → ¬ y_cl v i = 0 ∧ y_cl v i < 16 ∧ nI (y_cl v i) &&& (nI (y_cl v i) - nI 1) = nI (y_cl v (i + 1))) ∧ y_cl v (g_pop v) = 0 := by decide +kernel
theorem y_ones {d : Nat} {v : Nat} {x : Int32} {h : m_Hp} (hx : x = nI v) (hv : v < 16) : m_Call m_P (d + 1) 75 [.int x] (h) (some (.int (nI (g_pop v)))) (h) := by
  refine m_call_of (tab := tL_ones) (nL := 3) rfl rfl ?_
  subst hx
  obtain ⟨k1, k2⟩ := y_cl_ok v hv
  refine m_E.run 4 (pc1 := 4) (ls1 := [some _, some _, some _]) (st1 := []) rfl ?_
  refine m_E.up (fun i => (4, [some (.int (nI v)), some (.int (nI i)), some (.int (nI (y_cl v i)))], [], h)) (g_pop v) (fun i => True) (fun i hi hI K => ?_) ?_ (fun hI => ?_)
  · skip
    show m_E _ _ 4 [some (.int (nI v)), some (.int (nI i)), some (.int (nI (y_cl v i)))] [] (h) _
    obtain ⟨z1, z2, z3⟩ := k1 i hi
    refine m_E.run 1 (pc1 := 5) (ls1 := [some _, some _, some _]) (st1 := [_]) rfl ?_
    refine m_E.iff (by rw [m_beq0 (by omega)]; exact decide_eq_false z1) rfl ?_
    refine m_E.run 8 (pc1 := 4) (ls1 := [some _, some _, some _]) (st1 := []) rfl ?_
    dsimp only
    rw [nI_add, z3]
    exact K trivial
  · skip
    trivial
  · skip
    show m_E _ _ 4 ((fun i => [some (.int (nI v)), some (.int (nI i)), some (.int (nI (y_cl v i)))]) ((g_pop v))) [] ((fun i => h) ((g_pop v))) _
    dsimp only
    refine m_E.run 1 (pc1 := 5) (ls1 := [some _, some _, some _]) (st1 := [_]) rfl ?_
    refine m_E.ift (by rw [k2]; rfl) rfl ?_
    refine m_E.run 1 (pc1 := 21) (ls1 := [some _, some _, some _]) (st1 := [_]) rfl ?_
    exact m_E.iret rfl ⟨rfl, rfl⟩
theorem y_court {d : Nat} {c : Nat} {x : Int32} {h : m_Hp} (hx : x = nI c) (hc : c < 24) (h3 : 3 ≤ c % 6) : m_Call m_P (d + 1) 76 [.int x] (h) (some (.int (nI (y_ct c)))) (h) := by
  refine m_call_of (tab := tL_court) (nL := 1) rfl rfl ?_
  subst hx
  refine m_E.run 3 (pc1 := 4) (ls1 := [some _]) (st1 := [_, _, _]) rfl ?_
  refine m_E.div (by decide) rfl ?_
  rw [pk_div (by omega) (by decide) (by decide)]
  refine m_E.run 3 (pc1 := 9) (ls1 := [some _]) (st1 := [_, _, _]) rfl ?_
  dsimp only
  refine m_E.div (by decide) rfl ?_
  rw [m_rem (by omega) 6 (by decide) (by decide)]
  refine m_E.run 3 (pc1 := 13) (ls1 := [some _]) (st1 := [_]) rfl ?_
  dsimp only
  rw [pk_mul, nI_add, pk_sub (by omega)]
  exact m_E.iret rfl ⟨rfl, rfl⟩
theorem y_sheetAt {d : Nat} {j cell : Nat} {a b : Int32} {s : c_Sh} {R : y_R} {h : m_Hp} (H : Hrw h R) (ok : Okr R) (pk : Ypk (y_p R) j s) (ha : a = nI j) (hj : j < 6) (hb : b = nI cell) (hc : cell < 24) : m_Call m_P (d + 1) 77 [.int a, .int b, .ref 65] (h) (some (.int (nI (y_vc s cell)))) (h) := by
  refine m_call_of (tab := tL_sheetAt) (nL := 3) rfl rfl ?_
  subst ha hb
  obtain ⟨w, w1, w2, w3⟩ := pk.1 (cell / 3) (by omega)
  have w4 := w3 (cell % 3) (by omega)
  rw [show 3 * (cell / 3) + cell % 3 = cell by omega] at w4
  refine m_E.run 6 (pc1 := 7) (ls1 := [some _, some _, some _]) (st1 := [_, _, _, _]) rfl ?_
  dsimp only
  refine m_E.div (by decide) rfl ?_
  rw [pk_div (by omega) (by decide) (by decide)]
  refine m_E.run 1 (pc1 := 9) (ls1 := [some _, some _, some _]) (st1 := [_, _]) rfl ?_
  dsimp only
  rw [pk_mul, nI_add]
  refine m_E.yr H.2.2.2.2.1 ok.2.2.2.2.1 rfl (by omega) (by decide) (w2) rfl ?_
  refine m_E.run 3 (pc1 := 14) (ls1 := [some _, some _, some _]) (st1 := [_, _, _, _]) rfl ?_
  refine m_E.div (by decide) rfl ?_
  rw [m_rem (by omega) 3 (by decide) (by decide)]
  refine m_E.run 4 (pc1 := 21) (ls1 := [some _, some _, some _]) (st1 := [_]) rfl ?_
  dsimp only
  rw [pk_mul, pk_shrN w1 _ (9 * (cell % 3)) (y_smod _ (by omega)), pk_andN (Nat.lt_of_le_of_lt (Nat.div_le_self _ _) (by omega)) 9 (by decide), show (2 : Nat) ^ 9 = 512 from rfl, w4]
  exact m_E.iret rfl ⟨rfl, rfl⟩
theorem y_cellAt {d : Nat} {way place : Nat} {a b : Int32} {h : m_Hp} (ha : a = nI place) (hb : b = nI way) (hw : way < 4) (hp : place < 24) : m_Call m_P (d + 1) 79 [.int a, .int b] (h) (some (.int (nI (g_cellAt way place)))) (h) := by
  refine m_call_of (tab := tL_cellAt) (nL := 4) rfl rfl ?_
  subst ha hb
  have hw4 : way = 0 ∨ way = 1 ∨ way = 2 ∨ way = 3 := by omega
  rcases hw4 with rfl | rfl | rfl | rfl
  · skip
    refine m_E.run 2 (pc1 := 2) (ls1 := [some _, some _, none, none]) (st1 := [_, _]) rfl ?_
    refine m_E.div (by decide) rfl ?_
    refine m_E.iff (by decide) rfl ?_
    refine m_E.run 2 (pc1 := 9) (ls1 := [some _, some _, none, none]) (st1 := [_, _]) rfl ?_
    refine m_E.div (by decide) rfl ?_
    rw [pk_div (by omega) (by decide) (by decide)]
    refine m_E.run 4 (pc1 := 19) (ls1 := [some _, some _, some _, none]) (st1 := [_, _]) rfl ?_
    refine m_E.div (by decide) rfl ?_
    refine m_E.iff (by decide) rfl ?_
    refine m_E.run 2 (pc1 := 26) (ls1 := [some _, some _, some _, none]) (st1 := [_, _]) rfl ?_
    refine m_E.div (by decide) rfl ?_
    rw [m_rem (by omega) 6 (by decide) (by decide)]
    refine m_E.run 4 (pc1 := 36) (ls1 := [some _, some _, some _, some _]) (st1 := [_, _]) rfl ?_
    refine m_E.ict (by decide) rfl ?_
    refine m_E.run 2 (pc1 := 52) (ls1 := [some _, some _, some _, some _]) (st1 := [_, _]) rfl ?_
    refine m_E.ict (by decide) rfl ?_
    refine m_E.run 5 (pc1 := 72) (ls1 := [some _, some _, some _, some _]) (st1 := [_]) rfl ?_
    dsimp only
    rw [pk_mul, nI_add]
    exact m_E.iret rfl ⟨by rw [g_cellAt, if_pos (Or.inl rfl), g_along, if_neg (by simp)], rfl⟩
  · skip
    refine m_E.run 2 (pc1 := 2) (ls1 := [some _, some _, none, none]) (st1 := [_, _]) rfl ?_
    refine m_E.div (by decide) rfl ?_
    refine m_E.ift (by decide) rfl ?_
    refine m_E.run 2 (pc1 := 15) (ls1 := [some _, some _, none, none]) (st1 := [_, _]) rfl ?_
    refine m_E.div (by decide) rfl ?_
    rw [m_rem (by omega) 4 (by decide) (by decide)]
    refine m_E.run 3 (pc1 := 19) (ls1 := [some _, some _, some _, none]) (st1 := [_, _]) rfl ?_
    refine m_E.div (by decide) rfl ?_
    refine m_E.ift (by decide) rfl ?_
    refine m_E.run 2 (pc1 := 32) (ls1 := [some _, some _, some _, none]) (st1 := [_, _]) rfl ?_
    refine m_E.div (by decide) rfl ?_
    rw [pk_div (by omega) (by decide) (by decide)]
    refine m_E.run 3 (pc1 := 36) (ls1 := [some _, some _, some _, some _]) (st1 := [_, _]) rfl ?_
    refine m_E.ict (by decide) rfl ?_
    refine m_E.run 2 (pc1 := 52) (ls1 := [some _, some _, some _, some _]) (st1 := [_, _]) rfl ?_
    refine m_E.ict (by decide) rfl ?_
    refine m_E.run 5 (pc1 := 72) (ls1 := [some _, some _, some _, some _]) (st1 := [_]) rfl ?_
    dsimp only
    rw [pk_mul, nI_add]
    exact m_E.iret rfl ⟨by rw [g_cellAt, if_neg (by decide), g_along, if_neg (by simp)], rfl⟩
  · skip
    refine m_E.run 2 (pc1 := 2) (ls1 := [some _, some _, none, none]) (st1 := [_, _]) rfl ?_
    refine m_E.div (by decide) rfl ?_
    refine m_E.iff (by decide) rfl ?_
    refine m_E.run 2 (pc1 := 9) (ls1 := [some _, some _, none, none]) (st1 := [_, _]) rfl ?_
    refine m_E.div (by decide) rfl ?_
    rw [pk_div (by omega) (by decide) (by decide)]
    refine m_E.run 4 (pc1 := 19) (ls1 := [some _, some _, some _, none]) (st1 := [_, _]) rfl ?_
    refine m_E.div (by decide) rfl ?_
    refine m_E.iff (by decide) rfl ?_
    refine m_E.run 2 (pc1 := 26) (ls1 := [some _, some _, some _, none]) (st1 := [_, _]) rfl ?_
    refine m_E.div (by decide) rfl ?_
    rw [m_rem (by omega) 6 (by decide) (by decide)]
    refine m_E.run 4 (pc1 := 36) (ls1 := [some _, some _, some _, some _]) (st1 := [_, _]) rfl ?_
    refine m_E.icf (by decide) rfl ?_
    refine m_E.run 2 (pc1 := 41) (ls1 := [some _, some _, some _, some _]) (st1 := [_, _]) rfl ?_
    refine m_E.div (by decide) rfl ?_
    rw [m_rem (by omega) 2 (by decide) (by decide)]
    refine m_E.run 1 (pc1 := 43) (ls1 := [some _, some _, some _, some _]) (st1 := [_, _]) rfl ?_
    by_cases q : place / 6 % 2 = 1
    · skip
      refine m_E.icf (by rw [q]; decide) rfl ?_
      refine m_E.run 6 (pc1 := 52) (ls1 := [some _, some _, some _, some _]) (st1 := [_, _]) rfl ?_
      dsimp only
      rw [pk_sub (by omega)]
      refine m_E.ict (by decide) rfl ?_
      refine m_E.run 5 (pc1 := 72) (ls1 := [some _, some _, some _, some _]) (st1 := [_]) rfl ?_
      dsimp only
      rw [pk_mul, nI_add]
      exact m_E.iret rfl ⟨by rw [g_cellAt, if_pos (Or.inr rfl), g_along, if_pos (by simp [q])], rfl⟩
    · skip
      refine m_E.ict ((m_neI (by omega) (by omega)).trans (decide_eq_true q)) rfl ?_
      refine m_E.run 2 (pc1 := 52) (ls1 := [some _, some _, some _, some _]) (st1 := [_, _]) rfl ?_
      refine m_E.ict (by decide) rfl ?_
      refine m_E.run 5 (pc1 := 72) (ls1 := [some _, some _, some _, some _]) (st1 := [_]) rfl ?_
      dsimp only
      rw [pk_mul, nI_add]
      exact m_E.iret rfl ⟨by rw [g_cellAt, if_pos (Or.inr rfl), g_along, if_neg (by simp [q])], rfl⟩
  · skip
    refine m_E.run 2 (pc1 := 2) (ls1 := [some _, some _, none, none]) (st1 := [_, _]) rfl ?_
    refine m_E.div (by decide) rfl ?_
    refine m_E.ift (by decide) rfl ?_
    refine m_E.run 2 (pc1 := 15) (ls1 := [some _, some _, none, none]) (st1 := [_, _]) rfl ?_
    refine m_E.div (by decide) rfl ?_
    rw [m_rem (by omega) 4 (by decide) (by decide)]
    refine m_E.run 3 (pc1 := 19) (ls1 := [some _, some _, some _, none]) (st1 := [_, _]) rfl ?_
    refine m_E.div (by decide) rfl ?_
    refine m_E.ift (by decide) rfl ?_
    refine m_E.run 2 (pc1 := 32) (ls1 := [some _, some _, some _, none]) (st1 := [_, _]) rfl ?_
    refine m_E.div (by decide) rfl ?_
    rw [pk_div (by omega) (by decide) (by decide)]
    refine m_E.run 3 (pc1 := 36) (ls1 := [some _, some _, some _, some _]) (st1 := [_, _]) rfl ?_
    refine m_E.ict (by decide) rfl ?_
    refine m_E.run 2 (pc1 := 52) (ls1 := [some _, some _, some _, some _]) (st1 := [_, _]) rfl ?_
    refine m_E.icf (by decide) rfl ?_
    refine m_E.run 2 (pc1 := 57) (ls1 := [some _, some _, some _, some _]) (st1 := [_, _]) rfl ?_
    refine m_E.div (by decide) rfl ?_
    rw [m_rem (by omega) 2 (by decide) (by decide)]
    refine m_E.run 1 (pc1 := 59) (ls1 := [some _, some _, some _, some _]) (st1 := [_, _]) rfl ?_
    by_cases q : place / 4 % 2 = 1
    · skip
      refine m_E.icf (by rw [q]; decide) rfl ?_
      refine m_E.run 9 (pc1 := 72) (ls1 := [some _, some _, some _, some _]) (st1 := [_]) rfl ?_
      dsimp only
      rw [pk_sub (by omega), pk_mul, nI_add]
      exact m_E.iret rfl ⟨by rw [g_cellAt, if_neg (by decide), g_along, if_pos (by simp [q])], rfl⟩
    · skip
      refine m_E.ict ((m_neI (by omega) (by omega)).trans (decide_eq_true q)) rfl ?_
      refine m_E.run 5 (pc1 := 72) (ls1 := [some _, some _, some _, some _]) (st1 := [_]) rfl ?_
      dsimp only
      rw [pk_mul, nI_add]
      exact m_E.iret rfl ⟨by rw [g_cellAt, if_neg (by decide), g_along, if_neg (by simp [q])], rfl⟩
