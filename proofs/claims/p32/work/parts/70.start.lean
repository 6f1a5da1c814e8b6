/-! the start of the law's loop -/
def w_W0 : c_W := w_mk c_S0 c_S0 (fun _ => c_S0) 0 0 x_X0 false
theorem g_rep_lt {n b x : Nat} (hb : 0 < b) (hx : x ∈ List.replicate n 0) : x < b := by rw [(List.mem_replicate.mp hx).2]; exact hb
theorem g_perm_range : g_perm (List.range 24) := fun v hv => ⟨v, hv, by rw [List.getD_eq_getElem?_getD, List.getElem?_range hv]; rfl⟩
theorem Oks_0 : Oks c_S0 := ⟨List.length_range, fun x hx => List.mem_range.mp hx, List.length_replicate, List.length_replicate, fun x hx => g_rep_lt (by decide) hx, rfl, (by intro x hx; rcases List.mem_cons.mp hx with e | hx; omega; rcases List.mem_cons.mp hx with e | hx; omega; rcases List.mem_cons.mp hx with e | hx; omega; rcases List.mem_cons.mp hx with e | hx; omega; cases hx), List.length_replicate, List.length_replicate, fun x hx => g_rep_lt (by decide) hx, Nat.zero_le _, Nat.zero_le _, (show 0 < 2 ^ 30 by decide)⟩
theorem Tok_0 : Tok [] 0 c_S0 := ⟨Oks_0, Nat.le_refl _, ⟨(fun k hk => by have z := (List.mem_replicate.mp hk).2; cases z), (fun j hj => absurd hj (Nat.not_lt_zero j)), (fun k hk => by cases hk)⟩, g_perm_range, (fun z => absurd rfl z), (fun _ => rfl), (show 1 ≤ 10 by decide)⟩
theorem Okx_0 : Okx x_X0 := ⟨List.length_replicate, fun x hx => g_rep_lt (by decide) hx, Nat.zero_le _, Nat.zero_le _, List.length_replicate, fun x hx => g_rep_lt (by decide) hx, List.length_replicate, List.length_replicate, Nat.zero_le _⟩
theorem Okw_0 : Okw [] 0 w_W0 := ⟨Tok_0, Tok_0, fun _ _ => Tok_0, Okx_0⟩
theorem m_len0 (xs : List Int32) : (m_h0 xs ++ o_cells).length = 61 := rfl
theorem Hcl_0 {xs : List Int32} {h : m_Hp} (l : 69 ≤ h.length) (q : ∀ k, k < 61 → h[k]? = (m_h0 xs ++ o_cells)[k]?) : Hcl h [] (fun _ => ([], [], [])) w_W0 := by
  refine ⟨⟨(q 0 (by decide)).trans rfl, (q 1 (by decide)).trans rfl, (q 2 (by decide)).trans rfl⟩, (q 4 (by decide)).trans rfl, ?_, ?_, ⟨by decide, (q 21 (by decide)).trans rfl, (q 22 (by decide)).trans rfl, fun j hj => ?_, fun _ _ => Oks_0, (show 0 < 4 by decide), Nat.zero_le _⟩, ?_, ⟨_, (q 60 (by decide)).trans rfl, List.length_replicate⟩, ⟨l, fun k hk => by cases hk⟩⟩
  · exact ⟨by decide, (q 5 (by decide)).trans rfl, (q 6 (by decide)).trans rfl, (q 7 (by decide)).trans rfl, (q 8 (by decide)).trans rfl, (q 9 (by decide)).trans rfl, (q 10 (by decide)).trans rfl, (q 11 (by decide)).trans rfl, (q 12 (by decide)).trans rfl⟩
  · exact ⟨by decide, (q 13 (by decide)).trans rfl, (q 14 (by decide)).trans rfl, (q 15 (by decide)).trans rfl, (q 16 (by decide)).trans rfl, (q 17 (by decide)).trans rfl, (q 18 (by decide)).trans rfl, (q 19 (by decide)).trans rfl, (q 20 (by decide)).trans rfl⟩
  · match j, hj with
    | 0, _ => exact ⟨by decide, (q 23 (by decide)).trans rfl, (q 24 (by decide)).trans rfl, (q 25 (by decide)).trans rfl, (q 26 (by decide)).trans rfl, (q 27 (by decide)).trans rfl, (q 28 (by decide)).trans rfl, (q 29 (by decide)).trans rfl, (q 30 (by decide)).trans rfl⟩
    | 1, _ => exact ⟨by decide, (q 31 (by decide)).trans rfl, (q 32 (by decide)).trans rfl, (q 33 (by decide)).trans rfl, (q 34 (by decide)).trans rfl, (q 35 (by decide)).trans rfl, (q 36 (by decide)).trans rfl, (q 37 (by decide)).trans rfl, (q 38 (by decide)).trans rfl⟩
    | 2, _ => exact ⟨by decide, (q 39 (by decide)).trans rfl, (q 40 (by decide)).trans rfl, (q 41 (by decide)).trans rfl, (q 42 (by decide)).trans rfl, (q 43 (by decide)).trans rfl, (q 44 (by decide)).trans rfl, (q 45 (by decide)).trans rfl, (q 46 (by decide)).trans rfl⟩
    | 3, _ => exact ⟨by decide, (q 47 (by decide)).trans rfl, (q 48 (by decide)).trans rfl, (q 49 (by decide)).trans rfl, (q 50 (by decide)).trans rfl, (q 51 (by decide)).trans rfl, (q 52 (by decide)).trans rfl, (q 53 (by decide)).trans rfl, (q 54 (by decide)).trans rfl⟩
    | j + 4, hj => exact absurd hj (by omega)
  · exact ⟨by decide, (q 55 (by decide)).trans rfl, (q 56 (by decide)).trans rfl, (q 57 (by decide)).trans rfl, (q 58 (by decide)).trans rfl, (q 59 (by decide)).trans rfl⟩
theorem y_rep (n j : Nat) : (List.replicate n (0 : Int32)).getD j 0 = nI 0 := by
  rw [List.getD_eq_getElem?_getD, List.getElem?_replicate]
  split <;> rfl
theorem y_z0 : nI 0 = (0 : Int32) := by decide +kernel
theorem Lnk_0 : Lnk (c_leans c_S0) := ⟨List.length_replicate, fun c _ => ⟨9, by decide, by
    show (List.replicate 24 (0 : Int32)).getD c 0 = _
    rw [y_rep]; decide⟩, fun c _ _ => (y_rep 24 c).trans y_z0⟩
theorem Ry_0 {F : Nat → c_Sh} {q b m l p c g h : List Int32} (ok : Okr (y_mk q b m l p c g h)) (hq : ∀ k, k < 4 → q.getD k 0 = nI ([10, 3, 4, 12].getD k 0)) (hq2 : ∀ k, 4 ≤ k → k < 12 → q.getD k 0 = nI 0) (hb : ∀ k, k < 24 → b.getD k 0 = nI k) (hm : ∀ k, m.getD k 0 = nI 0) (hl : ∀ k, l.getD k 0 = nI 0) : Ry F c_S0 (y_mk q b m l p c g h) := by
  refine ⟨ok, ⟨hq, hq2 4 (by decide) (by decide), hq2 5 (by decide) (by decide), (hq2 6 (by decide) (by decide)).trans (if_pos rfl).symm, hq2 7 (by decide) (by decide), (hq2 8 (by decide) (by decide)).trans y_z0, (hq2 9 (by decide) (by decide)).trans y_z0, (hq2 10 (by decide) (by decide)).trans y_z0⟩, ⟨fun k hk => ?_, fun k hk => ?_, fun j hj => ?_⟩, fun j hj => absurd hj (Nat.not_lt_zero j), ⟨fun j hj => absurd hj (Nat.not_lt_zero j), fun hf => absurd rfl hf⟩⟩
  · show b.getD k 0 = nI ((List.range 24).getD k 0)
    rw [List.getD_eq_getElem?_getD (l := List.range 24), List.getElem?_range hk]
    exact hb k hk
  · show m.getD k 0 = nI ((List.replicate 24 0).getD k 0)
    rw [List.getD_eq_getElem?_getD (l := List.replicate 24 0), List.getElem?_replicate, if_pos hk]
    exact hm k
  · show l.getD j 0 = (List.replicate 24 (0 : Int32)).getD (y_cc j) 0
    rw [y_rep]
    exact hl j
def y_c0 : List m_Cel := [.inl (0, List.replicate 12 0), .inl (0, List.replicate 24 0), .inl (0, List.replicate 24 0), .inl (0, List.replicate 12 0), .inl (0, List.replicate 60 0), .inl (0, List.replicate 24 0), .inl (0, List.replicate 24 0), .inl (0, List.replicate 12 0)]
def y_R0 : y_R := y_mk (List.replicate 12 0) (List.replicate 24 0) (List.replicate 24 0) (List.replicate 12 0) (List.replicate 60 0) (List.replicate 24 0) (List.replicate 24 0) (List.replicate 12 0)
theorem Okr_0 : Okr y_R0 := ⟨List.length_replicate, List.length_replicate, List.length_replicate, List.length_replicate, List.length_replicate, List.length_replicate, List.length_replicate, List.length_replicate⟩
set_option maxRecDepth 100000 in
theorem y_begin {xs : List Int32} {Q : Option Value → m_Hp → Prop} (K : ∀ h, y_J xs 0 h → m_E (m_Call m_P 8) tL_law 97 [some (.ref 3), some (.ref 4), some (.ref 61), some (.ref 62), some (.ref 63), some (.ref 64), some (.ref 65), some (.ref 66), some (.ref 67), some (.ref 68), some (.int (nI 0)), none, none, none, none, none, none, none, none, none, none] [] h Q) : m_E (m_Call m_P 8) tL_law 0 (m_entry [.ref 3] 21) [] (m_h0 xs) Q := by
  refine m_E.run 2 (pc1 := 4) (ls1 := [some (.ref 3), none, none, none, none, none, none, none, none, none, none, none, none, none, none, none, none, none, none, none, none]) (st1 := [.ref 4, .ref 4]) (h1 := m_h0 xs ++ [.inr (.inl (5, [.null, .null, .null, .null, .null, .int 0]))]) rfl ?_
  refine m_E.on (a := 4) (ci := 5) (fs := [.null, .null, .null, .null, .null, .int 0]) rfl (by decide) rfl rfl rfl (c_new (d := 3) (P := m_h0 xs) rfl rfl) ?_
  have hP := m_len0 xs
  refine m_E.he (List.append_nil (m_h0 xs ++ o_cells)).symm ?_
  generalize eP : m_h0 xs ++ o_cells = P0 at *
  refine m_E.run 2 (pc1 := 10) (ls1 := [some _, some _, none, none, none, none, none, none, none, none, none, none, none, none, none, none, none, none, none, none, none]) (st1 := [_]) rfl ?_
  refine m_E.narP hP rfl (by decide) rfl ?_
  refine m_E.run 2 (pc1 := 15) (ls1 := [some _, some _, some _, none, none, none, none, none, none, none, none, none, none, none, none, none, none, none, none, none, none]) (st1 := [_]) rfl ?_
  refine m_E.narP hP rfl (by decide) rfl ?_
  refine m_E.run 2 (pc1 := 20) (ls1 := [some _, some _, some _, some _, none, none, none, none, none, none, none, none, none, none, none, none, none, none, none, none, none]) (st1 := [_]) rfl ?_
  refine m_E.narP hP rfl (by decide) rfl ?_
  refine m_E.run 2 (pc1 := 26) (ls1 := [some _, some _, some _, some _, some _, none, none, none, none, none, none, none, none, none, none, none, none, none, none, none, none]) (st1 := [_]) rfl ?_
  refine m_E.narP hP rfl (by decide) rfl ?_
  refine m_E.run 2 (pc1 := 32) (ls1 := [some _, some _, some _, some _, some _, some _, none, none, none, none, none, none, none, none, none, none, none, none, none, none, none]) (st1 := [_]) rfl ?_
  refine m_E.narP hP rfl (by decide) rfl ?_
  refine m_E.run 2 (pc1 := 38) (ls1 := [some _, some _, some _, some _, some _, some _, some _, none, none, none, none, none, none, none, none, none, none, none, none, none, none]) (st1 := [_]) rfl ?_
  refine m_E.narP hP rfl (by decide) rfl ?_
  refine m_E.run 2 (pc1 := 44) (ls1 := [some _, some _, some _, some _, some _, some _, some _, some _, none, none, none, none, none, none, none, none, none, none, none, none, none]) (st1 := [_]) rfl ?_
  refine m_E.narP hP rfl (by decide) rfl ?_
  refine m_E.run 2 (pc1 := 50) (ls1 := [some _, some _, some _, some _, some _, some _, some _, some _, some _, none, none, none, none, none, none, none, none, none, none, none, none]) (st1 := [_]) rfl ?_
  refine m_E.narP hP rfl (by decide) rfl ?_
  have H0 : Hrw (P0 ++ y_c0) y_R0 := ⟨m_lk hP 0, m_lk hP 1, m_lk hP 2, m_lk hP 3, m_lk hP 4, m_lk hP 5, m_lk hP 6, m_lk hP 7⟩
  have l0 : (P0 ++ y_c0).length = 69 := by rw [List.length_append, hP]; rfl
  have q0 : ∀ k, k < 61 → (P0 ++ y_c0)[k]? = P0[k]? := fun k hk => m_lk0 (by omega)
  have ok0 := Okr_0
  refine m_E.he (h2 := P0 ++ y_c0) rfl ?_
  generalize P0 ++ y_c0 = h0 at H0 l0 q0 ⊢
  change m_E _ _ 52 [some (.ref 3), some (.ref 4), some (.ref 61), some (.ref 62), some (.ref 63), some (.ref 64), some (.ref 65), some (.ref 66), some (.ref 67), none, none, none, none, none, none, none, none, none, none, none, none] [.ref 68] _ _
  refine m_E.run 4 (pc1 := 58) (ls1 := [some _, some _, some _, some _, some _, some _, some _, some _, some _, some _, none, none, none, none, none, none, none, none, none, none, none]) (st1 := [_, _, _]) rfl ?_
  refine m_E.yq H0 ok0 rfl (by omega) rfl (fun h1 g1 c1 => ?_)
  have l1 : ((y_q y_R0).set 0 (nI 10)).length = 12 := (List.length_set ..).trans ok0.1
  have ok1 := ok0.wq (j := 0) (x := nI 10)
  refine m_E.run 3 (pc1 := 62) (ls1 := [some _, some _, some _, some _, some _, some _, some _, some _, some _, some _, none, none, none, none, none, none, none, none, none, none, none]) (st1 := [_, _, _]) rfl ?_
  refine m_E.yq g1 ok1 rfl (by omega) rfl (fun h2 g2 c2 => ?_)
  have l2 : (((y_q y_R0).set 0 (nI 10)).set 1 (nI 3)).length = 12 := (List.length_set ..).trans l1
  have ok2 := ok1.wq (j := 1) (x := nI 3)
  refine m_E.run 3 (pc1 := 66) (ls1 := [some _, some _, some _, some _, some _, some _, some _, some _, some _, some _, none, none, none, none, none, none, none, none, none, none, none]) (st1 := [_, _, _]) rfl ?_
  refine m_E.yq g2 ok2 rfl (by omega) rfl (fun h3 g3 c3 => ?_)
  have l3 : ((((y_q y_R0).set 0 (nI 10)).set 1 (nI 3)).set 2 (nI 4)).length = 12 := (List.length_set ..).trans l2
  have ok3 := ok2.wq (j := 2) (x := nI 4)
  refine m_E.run 3 (pc1 := 71) (ls1 := [some _, some _, some _, some _, some _, some _, some _, some _, some _, some _, none, none, none, none, none, none, none, none, none, none, none]) (st1 := [_, _, _]) rfl ?_
  refine m_E.yq g3 ok3 rfl (by omega) rfl (fun h4 g4 c4 => ?_)
  have l4 : (((((y_q y_R0).set 0 (nI 10)).set 1 (nI 3)).set 2 (nI 4)).set 3 (nI 12)).length = 12 := (List.length_set ..).trans l3
  have ok4 := ok3.wq (j := 3) (x := nI 12)
  have cc : Chg 61 69 h0 h4 := c1.tr (c2.tr (c3.tr c4))
  generalize eq4 : ((((y_q y_R0).set 0 (nI 10)).set 1 (nI 3)).set 2 (nI 4)).set 3 (nI 12) = q4 at l4
  have g5 : Hrw h4 (y_sq y_R0 q4) := by rw [← eq4]; exact g4
  have ok5 : Okr (y_sq y_R0 q4) := ok0.vq l4
  have hq4 : ∀ k, k < 4 → q4.getD k 0 = nI ([10, 3, 4, 12].getD k 0) := by
    rw [← eq4]
    intro k hk
    match k, hk with
    | 0, _ => exact (y_off (by decide)).trans ((y_off (by decide)).trans ((y_off (by decide)).trans (y_at ok0.1 (by decide))))
    | 1, _ => exact (y_off (by decide)).trans ((y_off (by decide)).trans (y_at l1 (by decide)))
    | 2, _ => exact (y_off (by decide)).trans (y_at l2 (by decide))
    | 3, _ => exact y_at l3 (by decide)
    | k + 4, hk => omega
  have hq5 : ∀ k, 4 ≤ k → k < 12 → q4.getD k 0 = nI 0 := fun k h1 h2 => by
    rw [← eq4, y_off (by omega), y_off (by omega), y_off (by omega), y_off (by omega)]
    exact y_rep 12 k
  refine m_E.run 2 (pc1 := 75) (ls1 := [some _, some _, some _, some _, some _, some _, some _, some _, some _, some _, some _, none, none, none, none, none, none, none, none, none, none]) (st1 := []) rfl ?_
  refine m_E.lp (fun i ls hh => ls = [some (.ref 3), some (.ref 4), some (.ref 61), some (.ref 62), some (.ref 63), some (.ref 64), some (.ref 65), some (.ref 66), some (.ref 67), some (.ref 68), some (.int (nI i)), none, none, none, none, none, none, none, none, none, none] ∧ (∃ v, Hrw hh (y_sb (y_sq y_R0 q4) v) ∧ Chg 61 69 h0 hh ∧ v.length = 24 ∧ ∀ j, j < i → v.getD j 0 = nI j)) 24 ?_ ?_ ?_
  · skip
    rintro i _ hh hi ⟨rfl, hI⟩ K
    obtain ⟨v, g6, c6, lv, k6⟩ := hI
    have hi : i < 24 := by assumption
    have ok6 := ok5.vb lv
    refine m_E.run 2 (pc1 := 79) (ls1 := [some _, some _, some _, some _, some _, some _, some _, some _, some _, some _, some _, none, none, none, none, none, none, none, none, none, none]) (st1 := [_, _]) rfl ?_
    refine m_E.icf ((m_leI (by omega) (by omega)).trans (decide_eq_false (by omega))) rfl ?_
    refine m_E.run 3 (pc1 := 87) (ls1 := [some _, some _, some _, some _, some _, some _, some _, some _, some _, some _, some _, none, none, none, none, none, none, none, none, none, none]) (st1 := [_, _, _]) rfl ?_
    refine m_E.yb g6 ok6 rfl (by omega) rfl (fun h7 g7 c7 => ?_)
    refine m_E.run 2 (pc1 := 75) (ls1 := [some _, some _, some _, some _, some _, some _, some _, some _, some _, some _, some _, none, none, none, none, none, none, none, none, none, none]) (st1 := []) rfl ?_
    rw [nI_add]
    refine K _ _ ⟨rfl, _, g7, c6.tr c7, (List.length_set ..).trans lv, fun j hj => ?_⟩
    show (v.set i (nI i)).getD j 0 = _
    by_cases e : j = i
    · rw [e, y_at lv hi]
    · rw [y_off (Ne.symm e)]; exact k6 j (by omega)
  · skip
    exact ⟨rfl, y_b y_R0, g5, cc, List.length_replicate, fun j hj => absurd hj (Nat.not_lt_zero j)⟩
  · skip
    rintro _ hh ⟨rfl, hI⟩
    obtain ⟨v, g6, c6, lv, k6⟩ := hI
    have ok6 := ok5.vb lv
    refine m_E.run 2 (pc1 := 79) (ls1 := [some _, some _, some _, some _, some _, some _, some _, some _, some _, some _, some _, none, none, none, none, none, none, none, none, none, none]) (st1 := [_, _]) rfl ?_
    refine m_E.ict (by decide) rfl ?_
    refine m_E.run 2 (pc1 := 97) (ls1 := [some _, some _, some _, some _, some _, some _, some _, some _, some _, some _, some _, none, none, none, none, none, none, none, none, none, none]) (st1 := []) rfl ?_
    have q6 : ∀ k, k < 61 → hh[k]? = (m_h0 xs ++ o_cells)[k]? := fun k hk => (c6.2 k (Or.inl hk)).trans ((q0 k hk).trans (by rw [eP]))
    have l6 : hh.length = 69 := c6.1.trans l0
    have HC := Hcl_0 (by omega) q6
    have Y6 : Ry (fun _ => ([], [], [])) c_S0 (y_sb (y_sq y_R0 q4) v) := Ry_0 (l := List.replicate 12 0) (m := List.replicate 24 0) ok6 hq4 hq5 k6 (y_rep 24) (y_rep 12)
    refine K hh ⟨[], 0, _, w_W0, _, ⟨HC, Okw_0, g6, Y6, Lnk_0, fun k hk => by cases hk⟩, Nat.zero_le _, by omega, by omega, ?_, (q6 3 (by decide)).trans rfl⟩
    intro k hk
    by_cases z : k < 69
    · exact g6.bd ok6 k hk z
    · intro c hc; rw [List.getElem?_eq_none (by omega)] at hc; cases hc
