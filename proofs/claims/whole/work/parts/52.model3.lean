/-! the model's record, undo, keep, restore -/
theorem Okm.push {M : c_M} (ok : Okm M) : Okm (d_push M) := by
  obtain ⟨k1, k2, k3, k4, k5, k6, k7, k8, k9, k10⟩ := ok
  rw [d_push]
  split
  · exact ⟨k1, k2, g_into_len (by rw [g_shift, List.length_append, List.length_drop, List.length_drop]; omega) k2 (by decide) (by decide), Nat.le_refl 4, k5, k6, k7, k8, k9, k10⟩
  · exact ⟨k1, k2, g_into_len k3 k2 (by omega) (by decide), by show d_many M + 1 ≤ 4; omega, k5, k6, k7, k8, k9, k10⟩
def d_rec (M : c_M) : c_M := d_push (d_set_spare M (d_state M))
theorem Okm.aside {M : c_M} (ok : Okm M) : Okm (d_set_spare M (d_state M)) := by
  obtain ⟨k1, k2, k3, k4, k5, k6, k7, k8, k9, k10⟩ := ok
  exact ⟨k1, k1, k3, k4, k5, k6, k7, k8, k9, k10⟩
theorem Okm.rec {M : c_M} (ok : Okm M) : Okm (d_rec M) := ok.aside.push
theorem Okm.state {M : c_M} (ok : Okm M) {v : List Int32} (h : v.length = 611) : Okm (d_set_state M v) := by
  obtain ⟨k1, k2, k3, k4, k5, k6, k7, k8, k9, k10⟩ := ok
  exact ⟨h, k2, k3, k4, k5, k6, k7, k8, k9, k10⟩
theorem e_record {d : Nat} {M : c_M} {h : m_Hp} (H : Hmo h M) (ok : Okm M) : ∃ r h', m_Call m_P (d + 2) 104 [.ref 61] (h) r h' ∧ (fun r h2 => r = none ∧ Hmo h2 (d_rec M) ∧ Chg 61 69 h h2) r h' := by
  refine m_call_ex (tab := tX6_record) (nL := 1) rfl rfl ?_
  refine m_E.run 1 (pc1 := 1) (ls1 := [some _]) (st1 := [_]) rfl ?_
  obtain ⟨_, h1, p1, rfl, H1, c1⟩ := e_putAside (d := d) H ok
  refine m_E.on H.o (by decide) rfl rfl rfl (p1) ?_
  refine m_E.run 1 (pc1 := 5) (ls1 := [some _]) (st1 := [_]) rfl ?_
  obtain ⟨_, h2, p2, rfl, H2, c2⟩ := e_push (d := d) H1 ok.aside
  refine m_E.on H1.o (by decide) rfl rfl rfl (p2) ?_
  exact m_E.vret rfl ⟨rfl, H2, c1.tr c2⟩
def g_slot (hist : List Int32) (m : Nat) : List Int32 := (hist.drop (611 * m)).take 611
theorem g_slot_len {hist : List Int32} {m : Nat} (hl : hist.length = 2444) (hm : m < 4) : (g_slot hist m).length = 611 := by rw [g_slot, List.length_take, List.length_drop]; omega
theorem g_slot_get {hist : List Int32} {m i : Nat} (hi : i < 611) : hist.getD (m * 611 + i) 0 = (g_slot hist m).getD i 0 := by
  rw [g_slot, List.getD_eq_getElem?_getD, List.getD_eq_getElem?_getD, List.getElem?_take, if_pos hi, List.getElem?_drop, Nat.mul_comm]
def d_undo (M : c_M) : c_M := d_set_state (d_set_many M (d_many M - 1)) (g_slot (d_hist M) (d_many M - 1))
theorem e_undo0 {d : Nat} {M : c_M} {h : m_Hp} (H : Hmo h M) (hf : d_many M = 0) : m_Call m_P (d + 1) 105 [.ref 61] (h) (some (.int (-5))) (h) := by
  refine m_call_of (tab := tX6_undo) (nL := 2) rfl rfl ?_
  refine m_E.run 1 (pc1 := 1) (ls1 := [some _, none]) (st1 := [_]) rfl ?_
  refine m_E.gf H.o (by decide) rfl rfl ?_
  refine m_E.iff (by rw [hf]; rfl) rfl ?_
  refine m_E.run 1 (pc1 := 9) (ls1 := [some _, none]) (st1 := [_]) rfl ?_
  exact m_E.iret rfl ⟨rfl, rfl⟩
theorem e_undo {d : Nat} {M : c_M} {h : m_Hp} (H : Hmo h M) (ok : Okm M) (hf : 0 < d_many M) : ∃ r h', m_Call m_P (d + 1) 105 [.ref 61] (h) r h' ∧ (fun r h2 => r = some (.int (nI (d_many M - 1))) ∧ Hmo h2 (d_undo M) ∧ Chg 61 69 h h2) r h' := by
  refine m_call_ex (tab := tX6_undo) (nL := 2) rfl rfl ?_
  obtain ⟨k1, k2, k3, k4, k5, k6, k7, k8, k9, k10⟩ := id ok
  refine m_E.run 1 (pc1 := 1) (ls1 := [some _, none]) (st1 := [_]) rfl ?_
  refine m_E.gf H.o (by decide) rfl rfl ?_
  refine m_E.ift (by rw [m_beq0 (by omega), decide_eq_false (by omega)]; rfl) rfl ?_
  refine m_E.run 2 (pc1 := 12) (ls1 := [some _, none]) (st1 := [_, _]) rfl ?_
  refine m_E.gf H.o (by decide) rfl rfl ?_
  refine m_E.run 2 (pc1 := 17) (ls1 := [some _, none]) (st1 := [_, _]) rfl ?_
  dsimp only
  change m_E _ _ _ _ (.int (nI (d_many M) - nI 1) :: _) _ _
  rw [pk_sub (by omega)]
  refine m_E.pg H.o (by decide) rfl (Nat.le_of_ble_eq_true rfl) rfl (fun h1 u1 => ?_)
  have H1 := H.obj (N := d_set_many M (d_many M - 1)) u1 rfl rfl rfl rfl rfl rfl rfl
  have c1 : Chg 61 69 h h1 := u1.chg (by decide) (by decide)
  have ls := g_slot_len (m := d_many M - 1) k3 (by omega)
  refine m_E.run 2 (pc1 := 22) (ls1 := [some _, some _]) (st1 := []) rfl ?_
  refine m_E.lp (fun i ls hh => ls = [some (.ref 61), some (.int (nI i))] ∧ (Hmo hh (d_set_state (d_set_many M (d_many M - 1)) ((g_slot (d_hist M) (d_many M - 1)).take i ++ (d_state M).drop i)) ∧ Chg 61 69 h hh)) 611 ?_ ?_ ?_
  · skip
    rintro i _ hh hi ⟨rfl, hI⟩ K
    obtain ⟨Hi, ci⟩ := hI
    have li : ((g_slot (d_hist M) (d_many M - 1)).take i ++ (d_state M).drop i).length = 611 := by rw [List.length_append, List.length_take, List.length_drop]; omega
    refine m_E.run 2 (pc1 := 26) (ls1 := [some _, some _]) (st1 := [_, _]) rfl ?_
    refine m_E.icf ((m_leI (by omega) (by omega)).trans (decide_eq_false (by omega))) rfl ?_
    refine m_E.run 1 (pc1 := 30) (ls1 := [some _, some _]) (st1 := [_]) rfl ?_
    refine m_E.gf Hi.o (by decide) rfl rfl ?_
    refine m_E.run 2 (pc1 := 35) (ls1 := [some _, some _]) (st1 := [_, _, _]) rfl ?_
    refine m_E.gf Hi.o (by decide) rfl rfl ?_
    refine m_E.run 1 (pc1 := 39) (ls1 := [some _, some _]) (st1 := [_, _, _, _]) rfl ?_
    refine m_E.gf Hi.o (by decide) rfl rfl ?_
    refine m_E.run 4 (pc1 := 48) (ls1 := [some _, some _]) (st1 := [_, _, _, _]) rfl ?_
    dsimp only
    change m_E _ _ _ _ (.int (nI (d_many M - 1) * nI 611 + nI i) :: _) _ _
    rw [pk_mul, nI_add]
    refine m_E.ild Hi.2.2.2.1 (Or.inl rfl) rfl (show (d_many M - 1) * 611 + i < (d_hist M).length by omega) (show (d_hist M).length < 2 ^ 31 by omega) rfl ?_
    change m_E _ _ _ _ (.int ((d_hist M).getD ((d_many M - 1) * 611 + i) 0) :: _) _ _
    rw [g_slot_get hi]
    refine m_E.ig Hi.2.1 (by decide) rfl (show i < ((g_slot (d_hist M) (d_many M - 1)).take i ++ (d_state M).drop i).length by omega) (show ((g_slot (d_hist M) (d_many M - 1)).take i ++ (d_state M).drop i).length < 2 ^ 31 by omega) rfl (fun h3 u3 => ?_)
    refine m_E.run 2 (pc1 := 22) (ls1 := [some _, some _]) (st1 := []) rfl ?_
    rw [nI_add]
    have H3 := Hi.w_state u3
    refine K _ _ ⟨rfl, ?_, ci.tr (u3.chg (by decide) (by decide))⟩
    rw [← m_mix2 (P := g_slot (d_hist M) (d_many M - 1)) (Q := d_state M) (d := 0) (by omega) (by omega)]
    exact H3
  · skip
    exact ⟨rfl, by rw [List.take_zero, List.drop_zero, List.nil_append]; exact H1, c1⟩
  · skip
    rintro _ hh ⟨rfl, hI⟩
    obtain ⟨Hi, ci⟩ := hI
    rw [List.take_of_length_le (by omega), List.drop_eq_nil_of_le (by omega), List.append_nil] at Hi
    refine m_E.run 2 (pc1 := 26) (ls1 := [some _, some _]) (st1 := [_, _]) rfl ?_
    refine m_E.ict (by decide) rfl ?_
    refine m_E.run 1 (pc1 := 57) (ls1 := [some _, some _]) (st1 := [_]) rfl ?_
    refine m_E.gf Hi.o (by decide) rfl rfl ?_
    exact m_E.iret rfl ⟨rfl, Hi, ci⟩
def d_keep (M : c_M) : c_M := d_set_has (d_set_snap M (d_state M)) true
theorem e_keep {d : Nat} {M : c_M} {h : m_Hp} (H : Hmo h M) (ok : Okm M) : ∃ r h', m_Call m_P (d + 1) 106 [.ref 61] (h) r h' ∧ (fun r h2 => r = some (.int ((d_state M).getD 4 0)) ∧ Hmo h2 (d_keep M) ∧ Chg 61 69 h h2) r h' := by
  refine m_call_ex (tab := tX6_keep) (nL := 2) rfl rfl ?_
  obtain ⟨k1, k2, k3, k4, k5, k6, k7, k8, k9, k10⟩ := id ok
  refine m_E.run 2 (pc1 := 2) (ls1 := [some _, some _]) (st1 := []) rfl ?_
  refine m_E.lp (fun i ls hh => ls = [some (.ref 61), some (.int (nI i))] ∧ (Hmo hh (d_set_snap M ((d_state M).take i ++ (d_snap M).drop i)) ∧ Chg 61 69 h hh)) 611 ?_ ?_ ?_
  · skip
    rintro i _ hh hi ⟨rfl, hI⟩ K
    obtain ⟨Hi, ci⟩ := hI
    have li : ((d_state M).take i ++ (d_snap M).drop i).length = 611 := by rw [List.length_append, List.length_take, List.length_drop]; omega
    refine m_E.run 2 (pc1 := 6) (ls1 := [some _, some _]) (st1 := [_, _]) rfl ?_
    refine m_E.icf ((m_leI (by omega) (by omega)).trans (decide_eq_false (by omega))) rfl ?_
    refine m_E.run 1 (pc1 := 10) (ls1 := [some _, some _]) (st1 := [_]) rfl ?_
    refine m_E.gf Hi.o (by decide) rfl rfl ?_
    refine m_E.run 2 (pc1 := 15) (ls1 := [some _, some _]) (st1 := [_, _, _]) rfl ?_
    refine m_E.gf Hi.o (by decide) rfl rfl ?_
    refine m_E.run 1 (pc1 := 19) (ls1 := [some _, some _]) (st1 := [_, _, _, _]) rfl ?_
    refine m_E.ild Hi.2.1 (Or.inl rfl) rfl (show i < (d_state M).length by omega) (show (d_state M).length < 2 ^ 31 by omega) rfl ?_
    refine m_E.ig Hi.2.2.2.2.1 (by decide) rfl (show i < ((d_state M).take i ++ (d_snap M).drop i).length by omega) (show ((d_state M).take i ++ (d_snap M).drop i).length < 2 ^ 31 by omega) rfl (fun h1 u1 => ?_)
    refine m_E.run 2 (pc1 := 2) (ls1 := [some _, some _]) (st1 := []) rfl ?_
    rw [nI_add]
    have H1 := Hi.w_snap u1
    refine K _ _ ⟨rfl, ?_, ci.tr (u1.chg (by decide) (by decide))⟩
    rw [← m_mix2 (P := d_state M) (Q := d_snap M) (d := 0) (by omega) (by omega)]
    exact H1
  · skip
    exact ⟨rfl, by rw [List.take_zero, List.drop_zero, List.nil_append]; exact H, Chg.rf⟩
  · skip
    rintro _ hh ⟨rfl, hI⟩
    obtain ⟨Hi, ci⟩ := hI
    rw [List.take_of_length_le (by omega), List.drop_eq_nil_of_le (by omega), List.append_nil] at Hi
    refine m_E.run 2 (pc1 := 6) (ls1 := [some _, some _]) (st1 := [_, _]) rfl ?_
    refine m_E.ict (by decide) rfl ?_
    refine m_E.run 2 (pc1 := 29) (ls1 := [some _, some _]) (st1 := [_, _]) rfl ?_
    refine m_E.pg Hi.o (by decide) (v := .int (nI 1)) rfl (Nat.le_of_ble_eq_true rfl) rfl (fun h1 u1 => ?_)
    have H1 := Hi.obj (N := d_keep M) u1 rfl rfl rfl rfl rfl rfl rfl
    refine m_E.run 1 (pc1 := 33) (ls1 := [some _, some _]) (st1 := [_]) rfl ?_
    refine m_E.gf H1.o (by decide) rfl rfl ?_
    refine m_E.run 1 (pc1 := 37) (ls1 := [some _, some _]) (st1 := [_, _]) rfl ?_
    refine m_E.ild H1.2.1 (j := 4) (Or.inl rfl) rfl (show 4 < (d_state M).length by omega) (show (d_state M).length < 2 ^ 31 by omega) rfl ?_
    exact m_E.iret rfl ⟨rfl, H1, ci.tr (u1.chg (by decide) (by decide))⟩
theorem e_restore0 {d : Nat} {M : c_M} {h : m_Hp} (H : Hmo h M) (hf : d_has M = false) : m_Call m_P (d + 3) 107 [.ref 61] (h) (some (.int (-5))) (h) := by
  refine m_call_of (tab := tX6_restore) (nL := 2) rfl rfl ?_
  refine m_E.run 1 (pc1 := 1) (ls1 := [some _, none]) (st1 := [_]) rfl ?_
  refine m_E.gf H.o (by decide) rfl rfl ?_
  refine m_E.iff (by rw [hf]; rfl) rfl ?_
  refine m_E.run 1 (pc1 := 9) (ls1 := [some _, none]) (st1 := [_]) rfl ?_
  exact m_E.iret rfl ⟨rfl, rfl⟩
def d_restore (M : c_M) : c_M := d_set_state (d_rec M) (d_snap (d_rec M))
theorem e_restore {d : Nat} {M0 : c_M} {h : m_Hp} (H0 : Hmo h M0) (ok0 : Okm M0) (hf : d_has M0 = true) : ∃ r h', m_Call m_P (d + 3) 107 [.ref 61] (h) r h' ∧ (fun r h2 => r = some (.int ((d_snap (d_rec M0)).getD 4 0)) ∧ Hmo h2 (d_restore M0) ∧ Chg 61 69 h h2) r h' := by
  refine m_call_ex (tab := tX6_restore) (nL := 2) rfl rfl ?_
  refine m_E.run 1 (pc1 := 1) (ls1 := [some _, none]) (st1 := [_]) rfl ?_
  refine m_E.gf H0.o (by decide) rfl rfl ?_
  refine m_E.ift (by rw [hf]; rfl) rfl ?_
  refine m_E.run 1 (pc1 := 11) (ls1 := [some _, none]) (st1 := [_]) rfl ?_
  obtain ⟨_, h0, p0, rfl, H, c0⟩ := e_record (d := d) H0 ok0
  have ok := ok0.rec
  refine m_E.on H0.o (by decide) rfl rfl rfl (p0) ?_
  rw [d_restore]
  generalize d_rec M0 = M at H ok ⊢
  obtain ⟨k1, k2, k3, k4, k5, k6, k7, k8, k9, k10⟩ := id ok
  refine m_E.run 2 (pc1 := 16) (ls1 := [some _, some _]) (st1 := []) rfl ?_
  refine m_E.lp (fun i ls hh => ls = [some (.ref 61), some (.int (nI i))] ∧ (Hmo hh (d_set_state M ((d_snap M).take i ++ (d_state M).drop i)) ∧ Chg 61 69 h hh)) 611 ?_ ?_ ?_
  · skip
    rintro i _ hh hi ⟨rfl, hI⟩ K
    obtain ⟨Hi, ci⟩ := hI
    have li : ((d_snap M).take i ++ (d_state M).drop i).length = 611 := by rw [List.length_append, List.length_take, List.length_drop]; omega
    refine m_E.run 2 (pc1 := 20) (ls1 := [some _, some _]) (st1 := [_, _]) rfl ?_
    refine m_E.icf ((m_leI (by omega) (by omega)).trans (decide_eq_false (by omega))) rfl ?_
    refine m_E.run 1 (pc1 := 24) (ls1 := [some _, some _]) (st1 := [_]) rfl ?_
    refine m_E.gf Hi.o (by decide) rfl rfl ?_
    refine m_E.run 2 (pc1 := 29) (ls1 := [some _, some _]) (st1 := [_, _, _]) rfl ?_
    refine m_E.gf Hi.o (by decide) rfl rfl ?_
    refine m_E.run 1 (pc1 := 33) (ls1 := [some _, some _]) (st1 := [_, _, _, _]) rfl ?_
    refine m_E.ild Hi.2.2.2.2.1 (Or.inl rfl) rfl (show i < (d_snap M).length by omega) (show (d_snap M).length < 2 ^ 31 by omega) rfl ?_
    refine m_E.ig Hi.2.1 (by decide) rfl (show i < ((d_snap M).take i ++ (d_state M).drop i).length by omega) (show ((d_snap M).take i ++ (d_state M).drop i).length < 2 ^ 31 by omega) rfl (fun h1 u1 => ?_)
    refine m_E.run 2 (pc1 := 16) (ls1 := [some _, some _]) (st1 := []) rfl ?_
    rw [nI_add]
    have H1 := Hi.w_state u1
    refine K _ _ ⟨rfl, ?_, ci.tr (u1.chg (by decide) (by decide))⟩
    rw [← m_mix2 (P := d_snap M) (Q := d_state M) (d := 0) (by omega) (by omega)]
    exact H1
  · skip
    exact ⟨rfl, by rw [List.take_zero, List.drop_zero, List.nil_append]; exact H, c0⟩
  · skip
    rintro _ hh ⟨rfl, hI⟩
    obtain ⟨Hi, ci⟩ := hI
    rw [List.take_of_length_le (by omega), List.drop_eq_nil_of_le (by omega), List.append_nil] at Hi
    refine m_E.run 2 (pc1 := 20) (ls1 := [some _, some _]) (st1 := [_, _]) rfl ?_
    refine m_E.ict (by decide) rfl ?_
    refine m_E.run 1 (pc1 := 42) (ls1 := [some _, some _]) (st1 := [_]) rfl ?_
    refine m_E.gf Hi.o (by decide) rfl rfl ?_
    refine m_E.run 1 (pc1 := 46) (ls1 := [some _, some _]) (st1 := [_, _]) rfl ?_
    refine m_E.ild Hi.2.1 (j := 4) (Or.inl rfl) rfl (show 4 < (d_snap M).length by omega) (show (d_snap M).length < 2 ^ 31 by omega) rfl ?_
    exact m_E.iret rfl ⟨rfl, Hi, ci⟩
