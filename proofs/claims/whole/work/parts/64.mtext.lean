/-! the model's text -/
def y_sg (M : c_M) (k : Nat) : Nat := if k < d_len M then (d_text M).getD k 0 else 0
theorem y_sg_lt {M : c_M} (ok : Okm M) (k : Nat) : y_sg M k < 65536 := by
  obtain ⟨k1, k2, k3, k4, k5, k6, k7, k8, k9, k10⟩ := ok
  rw [y_sg]
  split
  · exact g_getD_lt k7 (by omega)
  · decide
theorem y_sg_pos {M : c_M} {k : Nat} (h : y_sg M k ≠ 0) : k < d_len M := by
  by_cases e : k < d_len M
  · exact e
  · exact absurd (by rw [y_sg, if_neg e]) h
/-- the model while it reads -/
def d_rd (M : c_M) (a : Nat) (s f g : Int32) : c_M := d_mk (d_state M) (d_spare M) (d_hist M) (d_many M) (d_snap M) (d_has M) (d_text M) (d_len M) a s f g (d_order M) (d_seen M)
theorem d_rd_self (M : c_M) : d_rd M (d_at M) (d_sign M) (d_first M) (d_second M) = M := rfl
theorem Okm.rd {M : c_M} (ok : Okm M) (a : Nat) (s f g : Int32) : Okm (d_rd M a s f g) := ok
theorem e_code {d : Nat} {a : Nat} {s f g : Int32} {M : c_M} {h : m_Hp} (H : Hmo h (d_rd M a s f g)) (ok : Okm M) (ha : a < 2 ^ 31) : m_Call m_P (d + 1) 141 [.ref 61] (h) (some (.int (nI (y_sg M a)))) (h) := by
  refine m_call_of (tab := tX6_code) (nL := 1) rfl rfl ?_
  obtain ⟨k1, k2, k3, k4, k5, k6, k7, k8, k9, k10⟩ := id ok
  refine m_E.run 1 (pc1 := 1) (ls1 := [some _]) (st1 := [_]) rfl ?_
  refine m_E.gf H.o (by decide) rfl rfl ?_
  refine m_E.run 1 (pc1 := 5) (ls1 := [some _]) (st1 := [_, _]) rfl ?_
  refine m_E.gf H.o (by decide) rfl rfl ?_
  change m_E _ _ _ _ (.int (nI (d_len M)) :: .int (nI a) :: _) _ _
  by_cases e : a < d_len M
  · skip
    refine m_E.icf ((m_leI (by omega) (by omega)).trans (decide_eq_false (by omega))) rfl ?_
    refine m_E.run 1 (pc1 := 12) (ls1 := [some _]) (st1 := [_]) rfl ?_
    refine m_E.gf H.o (by decide) rfl rfl ?_
    refine m_E.run 1 (pc1 := 16) (ls1 := [some _]) (st1 := [_, _]) rfl ?_
    refine m_E.gf H.o (by decide) rfl rfl ?_
    refine m_E.ild H.2.2.2.2.2.1 (j := a) (Or.inl rfl) rfl (show a < ((d_text M).map nI).length by rw [List.length_map]; omega) (show ((d_text M).map nI).length < 2 ^ 31 by rw [List.length_map]; omega) rfl ?_
    rw [show (d_text (d_rd M a s f g)) = d_text M from rfl, m_mapD, show (d_text M).getD a 0 = y_sg M a from by rw [y_sg, if_pos e]]
    refine m_E.run 1 (pc1 := 24) (ls1 := [some _]) (st1 := [_]) rfl ?_
    exact m_E.iret rfl ⟨rfl, rfl⟩
  · skip
    refine m_E.ict ((m_leI (by omega) (by omega)).trans (decide_eq_true (by omega))) rfl ?_
    rw [show y_sg M a = 0 from by rw [y_sg, if_neg e]]
    refine m_E.run 1 (pc1 := 24) (ls1 := [some _]) (st1 := [_]) rfl ?_
    exact m_E.iret rfl ⟨rfl, rfl⟩
theorem e_takes {d : Nat} {a c : Nat} {s f g x : Int32} {M : c_M} {h : m_Hp} (H : Hmo h (d_rd M a s f g)) (ok : Okm M) (ha : a < 2 ^ 31) (hx : x = nI c) (hc : c < 65536) (h0 : c ≠ 0) : ∃ r h', m_Call m_P (d + 1) 142 [.ref 61, .int x] (h) r h' ∧ (fun r h2 => r = some (.int (m_bI (decide (y_sg M a = c)))) ∧ Hmo h2 (d_rd M (if y_sg M a = c then a + 1 else a) s f g) ∧ Chg 61 69 h h2) r h' := by
  refine m_call_ex (tab := tX6_takes) (nL := 3) rfl rfl ?_
  subst hx
  obtain ⟨k1, k2, k3, k4, k5, k6, k7, k8, k9, k10⟩ := id ok
  refine m_E.run 1 (pc1 := 1) (ls1 := [some _, some _, none]) (st1 := [_]) rfl ?_
  refine m_E.gf H.o (by decide) rfl rfl ?_
  refine m_E.run 1 (pc1 := 5) (ls1 := [some _, some _, none]) (st1 := [_, _]) rfl ?_
  refine m_E.gf H.o (by decide) rfl rfl ?_
  change m_E _ _ _ _ (.int (nI (d_len M)) :: .int (nI a) :: _) _ _
  have tail : ∀ b, decide (y_sg M a = c) = b → m_E (m_Call m_P d) tX6_takes 29 [some (.ref 61), some (.int (nI c)), none] [.int (m_bI b)] h (fun r h2 => r = some (.int (m_bI (decide (y_sg M a = c)))) ∧ Hmo h2 (d_rd M (if y_sg M a = c then a + 1 else a) s f g) ∧ Chg 61 69 h h2) := by
    intro b eb
    rw [eb]
    refine m_E.run 3 (pc1 := 32) (ls1 := [some _, some _, some _]) (st1 := [_, _]) rfl ?_
    refine m_E.gf H.o (by decide) rfl rfl ?_
    refine m_E.run 1 (pc1 := 36) (ls1 := [some _, some _, some _]) (st1 := [_, _, _]) rfl ?_
    cases b
    · skip
      have ne := of_decide_eq_false eb
      rw [if_neg ne]
      refine m_E.ift (rfl) rfl ?_
      refine m_E.run 2 (pc1 := 45) (ls1 := [some _, some _, some _]) (st1 := [_, _]) rfl ?_
      dsimp only
      change m_E _ _ _ _ (.int (nI a + nI 0) :: _) _ _
      rw [nI_add]
      refine m_E.pg H.o (by decide) rfl (Nat.le_of_ble_eq_true rfl) rfl (fun h1 u1 => ?_)
      have H1 : Hmo h1 (d_rd M a s f g) := H.obj (N := d_rd M a s f g) u1 rfl rfl rfl rfl rfl rfl rfl
      refine m_E.run 1 (pc1 := 49) (ls1 := [some _, some _, some _]) (st1 := [_]) rfl ?_
      exact m_E.zret (by decide) rfl ⟨rfl, H1, u1.chg (by decide) (by decide)⟩
    · skip
      have ne := of_decide_eq_true eb
      rw [if_pos ne]
      refine m_E.iff (rfl) rfl ?_
      refine m_E.run 3 (pc1 := 45) (ls1 := [some _, some _, some _]) (st1 := [_, _]) rfl ?_
      dsimp only
      change m_E _ _ _ _ (.int (nI a + nI 1) :: _) _ _
      rw [nI_add]
      refine m_E.pg H.o (by decide) rfl (Nat.le_of_ble_eq_true rfl) rfl (fun h1 u1 => ?_)
      have H1 : Hmo h1 (d_rd M (a + 1) s f g) := H.obj (N := d_rd M (a + 1) s f g) u1 rfl rfl rfl rfl rfl rfl rfl
      refine m_E.run 1 (pc1 := 49) (ls1 := [some _, some _, some _]) (st1 := [_]) rfl ?_
      exact m_E.zret (by decide) rfl ⟨rfl, H1, u1.chg (by decide) (by decide)⟩
  by_cases e : a < d_len M
  · skip
    have es : (d_text M).getD a 0 = y_sg M a := by rw [y_sg, if_pos e]
    have ls := y_sg_lt ok a
    refine m_E.icf ((m_leI (by omega) (by omega)).trans (decide_eq_false (by omega))) rfl ?_
    refine m_E.run 1 (pc1 := 12) (ls1 := [some _, some _, none]) (st1 := [_]) rfl ?_
    refine m_E.gf H.o (by decide) rfl rfl ?_
    refine m_E.run 1 (pc1 := 16) (ls1 := [some _, some _, none]) (st1 := [_, _]) rfl ?_
    refine m_E.gf H.o (by decide) rfl rfl ?_
    refine m_E.ild H.2.2.2.2.2.1 (j := a) (Or.inl rfl) rfl (show a < ((d_text M).map nI).length by rw [List.length_map]; omega) (show ((d_text M).map nI).length < 2 ^ 31 by rw [List.length_map]; omega) rfl ?_
    rw [show (d_text (d_rd M a s f g)) = d_text M from rfl, m_mapD, es]
    refine m_E.run 1 (pc1 := 21) (ls1 := [some _, some _, none]) (st1 := [_, _]) rfl ?_
    by_cases ec : y_sg M a = c
    · skip
      refine m_E.icf (by rw [ec, m_neI (by omega) (by omega)]; simp) rfl ?_
      refine m_E.run 2 (pc1 := 29) (ls1 := [some _, some _, none]) (st1 := [_]) rfl ?_
      exact tail true (decide_eq_true ec)
    · skip
      refine m_E.ict (by rw [m_neI (by omega) (by omega)]; exact decide_eq_true ec) rfl ?_
      refine m_E.run 1 (pc1 := 29) (ls1 := [some _, some _, none]) (st1 := [_]) rfl ?_
      exact tail false (decide_eq_false ec)
  · skip
    refine m_E.ict ((m_leI (by omega) (by omega)).trans (decide_eq_true (by omega))) rfl ?_
    refine m_E.run 1 (pc1 := 29) (ls1 := [some _, some _, none]) (st1 := [_]) rfl ?_
    exact tail false (decide_eq_false (by rw [y_sg, if_neg e]; omega))
theorem p_digI : ∀ s, s < 48 → w_in (nI 0) (nI 9) (nI s - nI 48) = false := by decide +kernel
theorem p_dig_no {s : Nat} (hs : s < 65536) (h : p_dig s = none) : w_in (nI 0) (nI 9) (nI s - nI 48) = false := by
  by_cases z : s < 48
  · exact p_digI s z
  · rw [pk_sub (by omega), show w_in (nI 0) (nI 9) (nI (s - 48)) = g_in 10 (nI (s - 48)) from w_in_k (n := 10) (by decide) (by decide), ← Bool.not_eq_true]
    intro q
    obtain ⟨j, hj, e⟩ := g_in_of q (by decide)
    have e2 := m_inj (by omega) (by omega) e
    rw [p_dig, if_pos (by omega)] at h
    cases h
theorem p_dig_yes {s v : Nat} (h : p_dig s = some v) : nI s - nI 48 = nI v ∧ v < 10 ∧ s ≠ 0 := by
  obtain ⟨l, s0⟩ := p_dig_lt h
  unfold p_dig at h
  split at h
  · rename_i hh
    cases h
    exact ⟨pk_sub hh.1, l, s0⟩
  · cases h
theorem w_in_dig {v : Nat} (h : v < 10) : w_in (nI 0) (nI 9) (nI v) = true := by
  rw [show w_in (nI 0) (nI 9) (nI v) = g_in 10 (nI v) from w_in_k (n := 10) (by decide) (by decide)]
  exact g_in_yes h (by decide)
theorem e_readNumber {d : Nat} {a most : Nat} {s f g x : Int32} {M : c_M} {h : m_Hp} (H : Hmo h (d_rd M a s f g)) (ok : Okm M) (ha : a < 1000) (hx : x = nI most) (hm : most < 100) : ∃ r h', m_Call m_P (d + 2) 143 [.ref 61, .int x] (h) r h' ∧ (fun r h2 => r = some (.int (p_oI (p_num (y_sg M) 0 most a).1)) ∧ Hmo h2 (d_rd M (p_num (y_sg M) 0 most a).2 s f g) ∧ Chg 61 69 h h2) r h' := by
  refine m_call_ex (tab := tX6_readNumber) (nL := 4) rfl rfl ?_
  subst hx
  have ls := y_sg_lt ok a
  refine m_E.run 1 (pc1 := 1) (ls1 := [some _, some _, none, none]) (st1 := [_]) rfl ?_
  refine m_E.ov H.o (by decide) rfl rfl rfl (e_code H ok (by omega)) ?_
  refine m_E.run 6 (pc1 := 12) (ls1 := [some _, some _, some _, none]) (st1 := [_, _, _]) rfl ?_
  dsimp only
  rcases e1 : p_dig (y_sg M a) with _ | v
  · skip
    have ep : p_num (y_sg M) 0 most a = (none, a) := by rw [p_num, e1]
    rw [ep]
    refine m_E.cv rfl rfl (e_within) ?_
    rw [p_dig_no ls e1]
    refine m_E.ift (rfl) rfl ?_
    refine m_E.run 1 (pc1 := 25) (ls1 := [some _, some _, some _, none]) (st1 := [_]) rfl ?_
    exact m_E.iret rfl ⟨rfl, H, Chg.rf⟩
  · skip
    obtain ⟨ev, lv, _⟩ := p_dig_yes e1
    rw [ev]
    refine m_E.cv rfl rfl (e_within) ?_
    rw [w_in_dig lv]
    refine m_E.iff (rfl) rfl ?_
    refine m_E.run 2 (pc1 := 20) (ls1 := [some _, some _, some _, none]) (st1 := [_, _]) rfl ?_
    by_cases e2 : v ≤ most
    · skip
      refine m_E.ict ((m_leI (by omega) (by omega)).trans (decide_eq_true e2)) rfl ?_
      refine m_E.run 2 (pc1 := 28) (ls1 := [some _, some _, some _, none]) (st1 := [_, _]) rfl ?_
      refine m_E.gf H.o (by decide) rfl rfl ?_
      refine m_E.run 2 (pc1 := 33) (ls1 := [some _, some _, some _, none]) (st1 := [_, _]) rfl ?_
      dsimp only
      change m_E _ _ _ _ (.int (nI a + nI 1) :: _) _ _
      rw [nI_add]
      refine m_E.pg H.o (by decide) rfl (Nat.le_of_ble_eq_true rfl) rfl (fun h1 u1 => ?_)
      have H1 : Hmo h1 (d_rd M (a + 1) s f g) := H.obj (N := d_rd M (a + 1) s f g) u1 rfl rfl rfl rfl rfl rfl rfl
      have c1 : Chg 61 69 h h1 := u1.chg (by decide) (by decide)
      refine m_E.run 1 (pc1 := 37) (ls1 := [some _, some _, some _, none]) (st1 := [_]) rfl ?_
      refine m_E.ov H1.o (by decide) rfl rfl rfl (e_code H1 ok (by omega)) ?_
      have ls2 := y_sg_lt ok (a + 1)
      refine m_E.run 4 (pc1 := 45) (ls1 := [some _, some _, some _, some _]) (st1 := [_]) rfl ?_
      dsimp only
      have fin : ∀ w, p_num (y_sg M) 0 most a = (some v, a + 1) → m_E (m_Call m_P (d + 1)) tX6_readNumber 85 [some (.ref 61), some (.int (nI most)), some (.int (nI v)), some (.int w)] [] h1 (fun r h2 => r = some (.int (p_oI (p_num (y_sg M) 0 most a).1)) ∧ Hmo h2 (d_rd M (p_num (y_sg M) 0 most a).2 s f g) ∧ Chg 61 69 h h2) := by
        intro w ep
        rw [ep]
        refine m_E.run 1 (pc1 := 86) (ls1 := [some _, some _, some _, some _]) (st1 := [_]) rfl ?_
        exact m_E.iret rfl ⟨rfl, H1, c1⟩
      by_cases e3 : v = 0
      · skip
        refine m_E.ift (by rw [e3]; decide) rfl ?_
        refine fin _ ?_
        rw [p_num, e1]
        dsimp only
        rw [if_neg (by omega)]
        rcases p_dig (y_sg M (a + 1)) with _ | w
        · rfl
        · dsimp only; rw [if_pos (Or.inl e3)]
      · skip
        refine m_E.iff (by rw [show (0 : Int32) = nI 0 from rfl, m_leI (by omega) (by omega)]; exact decide_eq_false (by omega)) rfl ?_
        refine m_E.run 3 (pc1 := 52) (ls1 := [some _, some _, some _, some _]) (st1 := [_, _, _]) rfl ?_
        rcases e5 : p_dig (y_sg M (a + 1)) with _ | w
        · skip
          refine m_E.cv rfl rfl (e_within) ?_
          rw [p_dig_no ls2 e5]
          refine m_E.ift (rfl) rfl ?_
          refine fin _ ?_
          rw [p_num, e1]
          dsimp only
          rw [if_neg (by omega), e5]
        · skip
          obtain ⟨ew, lw, _⟩ := p_dig_yes e5
          rw [ew]
          refine m_E.cv rfl rfl (e_within) ?_
          rw [w_in_dig lw]
          refine m_E.iff (rfl) rfl ?_
          refine m_E.run 6 (pc1 := 65) (ls1 := [some _, some _, some _, some _]) (st1 := [_, _]) rfl ?_
          dsimp only
          rw [pk_mul, nI_add]
          by_cases e6 : 10 * v + w ≤ most
          · skip
            have ep : p_num (y_sg M) 0 most a = (some (10 * v + w), a + 2) := by rw [p_num, e1]; dsimp only; rw [if_neg (by omega), e5]; dsimp only; rw [if_neg (by omega)]
            rw [ep]
            refine m_E.icf ((m_ltI (by omega) (by omega)).trans (decide_eq_false (by omega))) rfl ?_
            refine m_E.run 8 (pc1 := 77) (ls1 := [some _, some _, some _, some _]) (st1 := [_, _]) rfl ?_
            dsimp only
            refine m_E.gf H1.o (by decide) rfl rfl ?_
            refine m_E.run 2 (pc1 := 82) (ls1 := [some _, some _, some _, some _]) (st1 := [_, _]) rfl ?_
            dsimp only
            change m_E _ _ _ _ (.int (nI (a + 1) + nI 1) :: _) _ _
            rw [pk_mul, nI_add, nI_add]
            refine m_E.pg H1.o (by decide) rfl (Nat.le_of_ble_eq_true rfl) rfl (fun h2 u2 => ?_)
            have H2 : Hmo h2 (d_rd M (a + 2) s f g) := H1.obj (N := d_rd M (a + 2) s f g) u2 rfl rfl rfl rfl rfl rfl rfl
            refine m_E.run 1 (pc1 := 86) (ls1 := [some _, some _, some _, some _]) (st1 := [_]) rfl ?_
            exact m_E.iret rfl ⟨rfl, H2, c1.tr (u2.chg (by decide) (by decide))⟩
          · skip
            refine m_E.ict ((m_ltI (by omega) (by omega)).trans (decide_eq_true (by omega))) rfl ?_
            refine fin _ ?_
            rw [p_num, e1]
            dsimp only
            rw [if_neg (by omega), e5]
            dsimp only
            rw [if_pos (by omega)]
    · skip
      have ep : p_num (y_sg M) 0 most a = (none, a) := by rw [p_num, e1]; dsimp only; rw [if_pos (by omega)]
      rw [ep]
      refine m_E.icf ((m_leI (by omega) (by omega)).trans (decide_eq_false e2)) rfl ?_
      refine m_E.run 1 (pc1 := 25) (ls1 := [some _, some _, some _, none]) (st1 := [_]) rfl ?_
      exact m_E.iret rfl ⟨rfl, H, Chg.rf⟩
