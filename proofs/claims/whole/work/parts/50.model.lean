/-! the model's object: cells 61 .. 68 -/
abbrev c_M : Type := List Int32 × List Int32 × List Int32 × Nat × List Int32 × Bool × List Nat × Nat × Nat × Int32 × Int32 × Int32 × List Int32 × List Int32
def d_state (M : c_M) : List Int32 := M.1
def d_spare (M : c_M) : List Int32 := M.2.1
def d_hist (M : c_M) : List Int32 := M.2.2.1
def d_many (M : c_M) : Nat := M.2.2.2.1
def d_snap (M : c_M) : List Int32 := M.2.2.2.2.1
def d_has (M : c_M) : Bool := M.2.2.2.2.2.1
def d_text (M : c_M) : List Nat := M.2.2.2.2.2.2.1
def d_len (M : c_M) : Nat := M.2.2.2.2.2.2.2.1
def d_at (M : c_M) : Nat := M.2.2.2.2.2.2.2.2.1
def d_sign (M : c_M) : Int32 := M.2.2.2.2.2.2.2.2.2.1
def d_first (M : c_M) : Int32 := M.2.2.2.2.2.2.2.2.2.2.1
def d_second (M : c_M) : Int32 := M.2.2.2.2.2.2.2.2.2.2.2.1
def d_order (M : c_M) : List Int32 := M.2.2.2.2.2.2.2.2.2.2.2.2.1
def d_seen (M : c_M) : List Int32 := M.2.2.2.2.2.2.2.2.2.2.2.2.2
def d_mk (a0 : List Int32) (a1 : List Int32) (a2 : List Int32) (a3 : Nat) (a4 : List Int32) (a5 : Bool) (a6 : List Nat) (a7 : Nat) (a8 : Nat) (a9 : Int32) (a10 : Int32) (a11 : Int32) (a12 : List Int32) (a13 : List Int32) : c_M := (a0, a1, a2, a3, a4, a5, a6, a7, a8, a9, a10, a11, a12, a13)
def d_set_state (M : c_M) (v : List Int32) : c_M := d_mk v (d_spare M) (d_hist M) (d_many M) (d_snap M) (d_has M) (d_text M) (d_len M) (d_at M) (d_sign M) (d_first M) (d_second M) (d_order M) (d_seen M)
def d_set_spare (M : c_M) (v : List Int32) : c_M := d_mk (d_state M) v (d_hist M) (d_many M) (d_snap M) (d_has M) (d_text M) (d_len M) (d_at M) (d_sign M) (d_first M) (d_second M) (d_order M) (d_seen M)
def d_set_hist (M : c_M) (v : List Int32) : c_M := d_mk (d_state M) (d_spare M) v (d_many M) (d_snap M) (d_has M) (d_text M) (d_len M) (d_at M) (d_sign M) (d_first M) (d_second M) (d_order M) (d_seen M)
def d_set_many (M : c_M) (v : Nat) : c_M := d_mk (d_state M) (d_spare M) (d_hist M) v (d_snap M) (d_has M) (d_text M) (d_len M) (d_at M) (d_sign M) (d_first M) (d_second M) (d_order M) (d_seen M)
def d_set_snap (M : c_M) (v : List Int32) : c_M := d_mk (d_state M) (d_spare M) (d_hist M) (d_many M) v (d_has M) (d_text M) (d_len M) (d_at M) (d_sign M) (d_first M) (d_second M) (d_order M) (d_seen M)
def d_set_has (M : c_M) (v : Bool) : c_M := d_mk (d_state M) (d_spare M) (d_hist M) (d_many M) (d_snap M) v (d_text M) (d_len M) (d_at M) (d_sign M) (d_first M) (d_second M) (d_order M) (d_seen M)
def d_set_text (M : c_M) (v : List Nat) : c_M := d_mk (d_state M) (d_spare M) (d_hist M) (d_many M) (d_snap M) (d_has M) v (d_len M) (d_at M) (d_sign M) (d_first M) (d_second M) (d_order M) (d_seen M)
def d_set_len (M : c_M) (v : Nat) : c_M := d_mk (d_state M) (d_spare M) (d_hist M) (d_many M) (d_snap M) (d_has M) (d_text M) v (d_at M) (d_sign M) (d_first M) (d_second M) (d_order M) (d_seen M)
def d_set_at (M : c_M) (v : Nat) : c_M := d_mk (d_state M) (d_spare M) (d_hist M) (d_many M) (d_snap M) (d_has M) (d_text M) (d_len M) v (d_sign M) (d_first M) (d_second M) (d_order M) (d_seen M)
def d_set_sign (M : c_M) (v : Int32) : c_M := d_mk (d_state M) (d_spare M) (d_hist M) (d_many M) (d_snap M) (d_has M) (d_text M) (d_len M) (d_at M) v (d_first M) (d_second M) (d_order M) (d_seen M)
def d_set_first (M : c_M) (v : Int32) : c_M := d_mk (d_state M) (d_spare M) (d_hist M) (d_many M) (d_snap M) (d_has M) (d_text M) (d_len M) (d_at M) (d_sign M) v (d_second M) (d_order M) (d_seen M)
def d_set_second (M : c_M) (v : Int32) : c_M := d_mk (d_state M) (d_spare M) (d_hist M) (d_many M) (d_snap M) (d_has M) (d_text M) (d_len M) (d_at M) (d_sign M) (d_first M) v (d_order M) (d_seen M)
def d_set_order (M : c_M) (v : List Int32) : c_M := d_mk (d_state M) (d_spare M) (d_hist M) (d_many M) (d_snap M) (d_has M) (d_text M) (d_len M) (d_at M) (d_sign M) (d_first M) (d_second M) v (d_seen M)
def d_set_seen (M : c_M) (v : List Int32) : c_M := d_mk (d_state M) (d_spare M) (d_hist M) (d_many M) (d_snap M) (d_has M) (d_text M) (d_len M) (d_at M) (d_sign M) (d_first M) (d_second M) (d_order M) v
def d_flds (M : c_M) : List Value := [.ref 62, .ref 63, .ref 64, .int (nI (d_many M)), .ref 65, .int (m_bI (d_has M)), .ref 66, .int (nI (d_len M)), .int (nI (d_at M)), .int (d_sign M), .int (d_first M), .int (d_second M), .ref 67, .ref 68]
def Hmo (h : m_Hp) (M : c_M) : Prop := h[61]? = some (.inr (.inl (6, d_flds M))) ∧ h[62]? = some (.inl (0, d_state M)) ∧ h[63]? = some (.inl (0, d_spare M)) ∧ h[64]? = some (.inl (0, d_hist M)) ∧ h[65]? = some (.inl (0, d_snap M)) ∧ h[66]? = some (.inl (0, (d_text M).map nI)) ∧ h[67]? = some (.inl (0, d_order M)) ∧ h[68]? = some (.inl (0, d_seen M))
def Okm (M : c_M) : Prop := (d_state M).length = 611 ∧ (d_spare M).length = 611 ∧ (d_hist M).length = 2444 ∧ d_many M ≤ 4 ∧ (d_snap M).length = 611 ∧ (d_text M).length = 60 ∧ (∀ c, c ∈ d_text M → c < 65536) ∧ d_len M ≤ 60 ∧ (d_order M).length = 24 ∧ (d_seen M).length = 24
section
variable {h h1 : m_Hp} {M : c_M}
theorem Hmo.o (H : Hmo h M) : h[61]? = some (.inr (.inl (6, d_flds M))) := H.1
theorem Hmo.obj {N : c_M} (H : Hmo h M) (u : Upd 61 (.inr (.inl (6, d_flds N))) h h1) (e1 : d_state N = d_state M) (e2 : d_spare N = d_spare M) (e3 : d_hist N = d_hist M) (e4 : d_snap N = d_snap M) (e5 : d_text N = d_text M) (e6 : d_order N = d_order M) (e7 : d_seen N = d_seen M) : Hmo h1 N := by
  obtain ⟨g0, g1, g2, g3, g4, g5, g6, g7⟩ := H
  exact ⟨u.2.1, by rw [e1]; exact (u.2.2 _ (by decide)).trans g1, by rw [e2]; exact (u.2.2 _ (by decide)).trans g2, by rw [e3]; exact (u.2.2 _ (by decide)).trans g3, by rw [e4]; exact (u.2.2 _ (by decide)).trans g4, by rw [e5]; exact (u.2.2 _ (by decide)).trans g5, by rw [e6]; exact (u.2.2 _ (by decide)).trans g6, by rw [e7]; exact (u.2.2 _ (by decide)).trans g7⟩
theorem Hmo.w_state {v : List Int32} (H : Hmo h M) (u : Upd 62 (.inl (0, v)) h h1) : Hmo h1 (d_set_state M v) := by
  obtain ⟨g0, g1, g2, g3, g4, g5, g6, g7⟩ := H
  exact ⟨(u.2.2 _ (by decide)).trans g0, u.2.1, (u.2.2 _ (by decide)).trans g2, (u.2.2 _ (by decide)).trans g3, (u.2.2 _ (by decide)).trans g4, (u.2.2 _ (by decide)).trans g5, (u.2.2 _ (by decide)).trans g6, (u.2.2 _ (by decide)).trans g7⟩
theorem Hmo.w_spare {v : List Int32} (H : Hmo h M) (u : Upd 63 (.inl (0, v)) h h1) : Hmo h1 (d_set_spare M v) := by
  obtain ⟨g0, g1, g2, g3, g4, g5, g6, g7⟩ := H
  exact ⟨(u.2.2 _ (by decide)).trans g0, (u.2.2 _ (by decide)).trans g1, u.2.1, (u.2.2 _ (by decide)).trans g3, (u.2.2 _ (by decide)).trans g4, (u.2.2 _ (by decide)).trans g5, (u.2.2 _ (by decide)).trans g6, (u.2.2 _ (by decide)).trans g7⟩
theorem Hmo.w_hist {v : List Int32} (H : Hmo h M) (u : Upd 64 (.inl (0, v)) h h1) : Hmo h1 (d_set_hist M v) := by
  obtain ⟨g0, g1, g2, g3, g4, g5, g6, g7⟩ := H
  exact ⟨(u.2.2 _ (by decide)).trans g0, (u.2.2 _ (by decide)).trans g1, (u.2.2 _ (by decide)).trans g2, u.2.1, (u.2.2 _ (by decide)).trans g4, (u.2.2 _ (by decide)).trans g5, (u.2.2 _ (by decide)).trans g6, (u.2.2 _ (by decide)).trans g7⟩
theorem Hmo.w_snap {v : List Int32} (H : Hmo h M) (u : Upd 65 (.inl (0, v)) h h1) : Hmo h1 (d_set_snap M v) := by
  obtain ⟨g0, g1, g2, g3, g4, g5, g6, g7⟩ := H
  exact ⟨(u.2.2 _ (by decide)).trans g0, (u.2.2 _ (by decide)).trans g1, (u.2.2 _ (by decide)).trans g2, (u.2.2 _ (by decide)).trans g3, u.2.1, (u.2.2 _ (by decide)).trans g5, (u.2.2 _ (by decide)).trans g6, (u.2.2 _ (by decide)).trans g7⟩
theorem Hmo.w_text {v : List Nat} (H : Hmo h M) (u : Upd 66 (.inl (0, v.map nI)) h h1) : Hmo h1 (d_set_text M v) := by
  obtain ⟨g0, g1, g2, g3, g4, g5, g6, g7⟩ := H
  exact ⟨(u.2.2 _ (by decide)).trans g0, (u.2.2 _ (by decide)).trans g1, (u.2.2 _ (by decide)).trans g2, (u.2.2 _ (by decide)).trans g3, (u.2.2 _ (by decide)).trans g4, u.2.1, (u.2.2 _ (by decide)).trans g6, (u.2.2 _ (by decide)).trans g7⟩
theorem Hmo.w_order {v : List Int32} (H : Hmo h M) (u : Upd 67 (.inl (0, v)) h h1) : Hmo h1 (d_set_order M v) := by
  obtain ⟨g0, g1, g2, g3, g4, g5, g6, g7⟩ := H
  exact ⟨(u.2.2 _ (by decide)).trans g0, (u.2.2 _ (by decide)).trans g1, (u.2.2 _ (by decide)).trans g2, (u.2.2 _ (by decide)).trans g3, (u.2.2 _ (by decide)).trans g4, (u.2.2 _ (by decide)).trans g5, u.2.1, (u.2.2 _ (by decide)).trans g7⟩
theorem Hmo.w_seen {v : List Int32} (H : Hmo h M) (u : Upd 68 (.inl (0, v)) h h1) : Hmo h1 (d_set_seen M v) := by
  obtain ⟨g0, g1, g2, g3, g4, g5, g6, g7⟩ := H
  exact ⟨(u.2.2 _ (by decide)).trans g0, (u.2.2 _ (by decide)).trans g1, (u.2.2 _ (by decide)).trans g2, (u.2.2 _ (by decide)).trans g3, (u.2.2 _ (by decide)).trans g4, (u.2.2 _ (by decide)).trans g5, (u.2.2 _ (by decide)).trans g6, u.2.1⟩
theorem Hmo.off {lo hi : Nat} (H : Hmo h M) (c : Chg lo hi h h1) (hd : 69 ≤ lo ∨ hi ≤ 61) : Hmo h1 M := by
  obtain ⟨g0, g1, g2, g3, g4, g5, g6, g7⟩ := H
  exact ⟨(c.2 _ (by omega)).trans g0, (c.2 _ (by omega)).trans g1, (c.2 _ (by omega)).trans g2, (c.2 _ (by omega)).trans g3, (c.2 _ (by omega)).trans g4, (c.2 _ (by omega)).trans g5, (c.2 _ (by omega)).trans g6, (c.2 _ (by omega)).trans g7⟩
theorem Hmo.frm (H : Hmo h M) (c : Frm h h1) : Hmo h1 M := by
  obtain ⟨g0, g1, g2, g3, g4, g5, g6, g7⟩ := H
  have e : ∀ (k : Nat) (x : m_Cel), (k < 4 ∨ 61 ≤ k) → h[k]? = some x → h1[k]? = some x := fun k x hk hx => (c.2 k (List.getElem?_eq_some_iff.mp hx).1 hk).trans hx
  exact ⟨e _ _ (by decide) g0, e _ _ (by decide) g1, e _ _ (by decide) g2, e _ _ (by decide) g3, e _ _ (by decide) g4, e _ _ (by decide) g5, e _ _ (by decide) g6, e _ _ (by decide) g7⟩
end
theorem e_putAside {d : Nat} {M : c_M} {h : m_Hp} (H : Hmo h M) (ok : Okm M) : ∃ r h', m_Call m_P (d + 1) 101 [.ref 61] (h) r h' ∧ (fun r h2 => r = none ∧ Hmo h2 (d_set_spare M (d_state M)) ∧ Chg 61 69 h h2) r h' := by
  refine m_call_ex (tab := tX6_putAside) (nL := 2) rfl rfl ?_
  obtain ⟨k1, k2, k3, k4, k5, k6, k7, k8, k9, k10⟩ := id ok
  refine m_E.run 2 (pc1 := 2) (ls1 := [some _, some _]) (st1 := []) rfl ?_
  refine m_E.lp (fun i ls hh => ls = [some (.ref 61), some (.int (nI i))] ∧ (Hmo hh (d_set_spare M ((d_state M).take i ++ (d_spare M).drop i)) ∧ Chg 61 69 h hh)) 611 ?_ ?_ ?_
  · skip
    rintro i _ hh hi ⟨rfl, hI⟩ K
    obtain ⟨Hi, ci⟩ := hI
    have li : ((d_state M).take i ++ (d_spare M).drop i).length = 611 := by rw [List.length_append, List.length_take, List.length_drop]; omega
    refine m_E.run 2 (pc1 := 6) (ls1 := [some _, some _]) (st1 := [_, _]) rfl ?_
    refine m_E.icf ((m_leI (by omega) (by omega)).trans (decide_eq_false (by omega))) rfl ?_
    refine m_E.run 1 (pc1 := 10) (ls1 := [some _, some _]) (st1 := [_]) rfl ?_
    refine m_E.gf Hi.o (by decide) rfl rfl ?_
    refine m_E.run 2 (pc1 := 15) (ls1 := [some _, some _]) (st1 := [_, _, _]) rfl ?_
    refine m_E.gf Hi.o (by decide) rfl rfl ?_
    refine m_E.run 1 (pc1 := 19) (ls1 := [some _, some _]) (st1 := [_, _, _, _]) rfl ?_
    refine m_E.ild Hi.2.1 (Or.inl rfl) rfl (show i < (d_state M).length by omega) (show (d_state M).length < 2 ^ 31 by omega) rfl ?_
    refine m_E.ig Hi.2.2.1 (by decide) rfl (show i < ((d_state M).take i ++ (d_spare M).drop i).length by omega) (show ((d_state M).take i ++ (d_spare M).drop i).length < 2 ^ 31 by omega) rfl (fun h1 u1 => ?_)
    refine m_E.run 2 (pc1 := 2) (ls1 := [some _, some _]) (st1 := []) rfl ?_
    rw [nI_add]
    have H1 := Hi.w_spare u1
    refine K _ _ ⟨rfl, ?_, ci.tr (u1.chg (by decide) (by decide))⟩
    rw [← m_mix (P := d_state M) (Q := d_spare M) (d := 0) (by omega) (by omega)]
    exact H1
  · skip
    exact ⟨rfl, by rw [List.take_zero, List.drop_zero, List.nil_append]; exact H, Chg.rf⟩
  · skip
    rintro _ hh ⟨rfl, hI⟩
    obtain ⟨Hi, ci⟩ := hI
    rw [List.take_of_length_le (by omega), List.drop_eq_nil_of_le (by omega), List.append_nil] at Hi
    refine m_E.run 2 (pc1 := 6) (ls1 := [some _, some _]) (st1 := [_, _]) rfl ?_
    refine m_E.ict (by decide) rfl ?_
    exact m_E.vret rfl ⟨rfl, Hi, ci⟩
theorem e_takeBack {d : Nat} {M : c_M} {h : m_Hp} (H : Hmo h M) (ok : Okm M) : ∃ r h', m_Call m_P (d + 1) 102 [.ref 61] (h) r h' ∧ (fun r h2 => r = none ∧ Hmo h2 (d_set_state M (d_spare M)) ∧ Chg 61 69 h h2) r h' := by
  refine m_call_ex (tab := tX6_takeBack) (nL := 2) rfl rfl ?_
  obtain ⟨k1, k2, k3, k4, k5, k6, k7, k8, k9, k10⟩ := id ok
  refine m_E.run 2 (pc1 := 2) (ls1 := [some _, some _]) (st1 := []) rfl ?_
  refine m_E.lp (fun i ls hh => ls = [some (.ref 61), some (.int (nI i))] ∧ (Hmo hh (d_set_state M ((d_spare M).take i ++ (d_state M).drop i)) ∧ Chg 61 69 h hh)) 611 ?_ ?_ ?_
  · skip
    rintro i _ hh hi ⟨rfl, hI⟩ K
    obtain ⟨Hi, ci⟩ := hI
    have li : ((d_spare M).take i ++ (d_state M).drop i).length = 611 := by rw [List.length_append, List.length_take, List.length_drop]; omega
    refine m_E.run 2 (pc1 := 6) (ls1 := [some _, some _]) (st1 := [_, _]) rfl ?_
    refine m_E.icf ((m_leI (by omega) (by omega)).trans (decide_eq_false (by omega))) rfl ?_
    refine m_E.run 1 (pc1 := 10) (ls1 := [some _, some _]) (st1 := [_]) rfl ?_
    refine m_E.gf Hi.o (by decide) rfl rfl ?_
    refine m_E.run 2 (pc1 := 15) (ls1 := [some _, some _]) (st1 := [_, _, _]) rfl ?_
    refine m_E.gf Hi.o (by decide) rfl rfl ?_
    refine m_E.run 1 (pc1 := 19) (ls1 := [some _, some _]) (st1 := [_, _, _, _]) rfl ?_
    refine m_E.ild Hi.2.2.1 (Or.inl rfl) rfl (show i < (d_spare M).length by omega) (show (d_spare M).length < 2 ^ 31 by omega) rfl ?_
    refine m_E.ig Hi.2.1 (by decide) rfl (show i < ((d_spare M).take i ++ (d_state M).drop i).length by omega) (show ((d_spare M).take i ++ (d_state M).drop i).length < 2 ^ 31 by omega) rfl (fun h1 u1 => ?_)
    refine m_E.run 2 (pc1 := 2) (ls1 := [some _, some _]) (st1 := []) rfl ?_
    rw [nI_add]
    have H1 := Hi.w_state u1
    refine K _ _ ⟨rfl, ?_, ci.tr (u1.chg (by decide) (by decide))⟩
    rw [← m_mix (P := d_spare M) (Q := d_state M) (d := 0) (by omega) (by omega)]
    exact H1
  · skip
    exact ⟨rfl, by rw [List.take_zero, List.drop_zero, List.nil_append]; exact H, Chg.rf⟩
  · skip
    rintro _ hh ⟨rfl, hI⟩
    obtain ⟨Hi, ci⟩ := hI
    rw [List.take_of_length_le (by omega), List.drop_eq_nil_of_le (by omega), List.append_nil] at Hi
    refine m_E.run 2 (pc1 := 6) (ls1 := [some _, some _]) (st1 := [_, _]) rfl ?_
    refine m_E.ict (by decide) rfl ?_
    exact m_E.vret rfl ⟨rfl, Hi, ci⟩
