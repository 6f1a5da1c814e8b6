/-! a turn of the law's loop -/
def Bd (h : m_Hp) : Prop := ∀ k, 61 ≤ k → g_bd h k
theorem g_bd_eq {h h2 : m_Hp} {k : Nat} (e : h2[k]? = h[k]?) (b : g_bd h k) : g_bd h2 k := fun c hc => b c (by rw [← e]; exact hc)
theorem Bd.frm {h h2 : m_Hp} (B : Bd h) (f : Frm h h2) (b : ∀ k, h.length ≤ k → g_bd h2 k) : Bd h2 := fun k hk => by
  by_cases z : k < h.length
  · exact g_bd_eq (f.2 k z (Or.inr hk)) (B k hk)
  · exact b k (by omega)
theorem g_bd_row {h : m_Hp} {k n : Nat} {xs : List Int32} (e : h[k]? = some (.inl (0, xs))) (l : xs.length = n) (hn : n ≤ 60) : g_bd h k := fun c hc => by
  rw [e] at hc
  rw [← Option.some.inj hc]
  show xs.length ≤ 60
  omega
theorem Bd.lfr {h h2 : m_Hp} {R : y_R} (B : Bd h) (f : Lfr h h2) (b : ∀ k, h.length ≤ k → g_bd h2 k) (H : Hrw h2 R) (ok : Okr R) : Bd h2 := fun k hk => by
  obtain ⟨a0, a1, a2, a3, a4, a5, a6, a7⟩ := H
  obtain ⟨o0, o1, o2, o3, o4, o5, o6, o7⟩ := ok
  by_cases z9 : 69 ≤ k
  · by_cases z : k < h.length
    · exact g_bd_eq (f.2 k z (Or.inr z9)) (B k hk)
    · exact b k (by omega)
  · have e : k = 61 ∨ k = 62 ∨ k = 63 ∨ k = 64 ∨ k = 65 ∨ k = 66 ∨ k = 67 ∨ k = 68 := by omega
    rcases e with rfl | rfl | rfl | rfl | rfl | rfl | rfl | rfl
    · exact g_bd_row a0 o0 (by decide)
    · exact g_bd_row a1 o1 (by decide)
    · exact g_bd_row a2 o2 (by decide)
    · exact g_bd_row a3 o3 (by decide)
    · exact g_bd_row a4 o4 (by decide)
    · exact g_bd_row a5 o5 (by decide)
    · exact g_bd_row a6 o6 (by decide)
    · exact g_bd_row a7 o7 (by decide)
/-- what holds at each turn -/
def y_J (xs : List Int32) (i : Nat) (h : m_Hp) : Prop := ∃ n p F W R, Yx n p F W R h ∧ p ≤ 2 * i ∧ h.length ≤ 69 + 9 * i ∧ 69 ≤ h.length ∧ Bd h ∧ h[3]? = some (.inl (0, xs))
theorem y_lc (x : Int64) : lg_cmp x x = 0 := by simp [lg_cmp]
set_option maxRecDepth 100000 in
theorem y_fin {turn a b e p p2 kd : Nat} {x y : Int32} {was : Int64} {v20 : Option Value} {n n2 : List Nat} {F F2 : Nat → c_Sh} {S : c_St} {W2 : c_W} {R : y_R} {h : m_Hp} {Q : Option Value → m_Hp → Prop} (hn : y_num) (H2 : Hcl h n2 F2 W2) (ok2 : Okw n2 p2 W2) (Hr : Hrw h R) (Y : Ry F S R) (t : Tok n p S) (G : Gsh n F) (GL : Gln n F) (L : Lnk (c_leans S)) (hpr : c_printed S + 1 < 2 ^ 30) (rg : y_rg kd a b e) (ag : ∀ k, k ∈ n → g_sh F2 k = g_sh F k) (T : y_To kd a b e F S F2 (w_now W2)) (GL2 : Gln n2 F2) (K : ∀ h3 R3 v20, Yx n2 p2 F2 W2 R3 h3 → Lfr h h3 → h3.length ≤ h.length + 1 → (∀ k, h.length ≤ k → g_bd h3 k) → m_E (m_Call m_P 8) tL_law 708 [some (.ref 3), some (.ref 4), some (.ref 61), some (.ref 62), some (.ref 63), some (.ref 64), some (.ref 65), some (.ref 66), some (.ref 67), some (.ref 68), some (.int (nI turn)), some (.int x), some (.int y), some (.int (nI kd)), some (.int (nI a)), some (.int (nI b)), some (.int (nI e)), some (.long was), none, some (.int (y_bk kd a b e F S).1), v20] [] h3 Q) : m_E (m_Call m_P 8) tL_law 567 [some (.ref 3), some (.ref 4), some (.ref 61), some (.ref 62), some (.ref 63), some (.ref 64), some (.ref 65), some (.ref 66), some (.ref 67), some (.ref 68), some (.int (nI turn)), some (.int x), some (.int y), some (.int (nI kd)), some (.int (nI a)), some (.int (nI b)), some (.int (nI e)), some (.long was), none, some (.int (y_bk kd a b e F S).1), v20] [] h Q := by
  refine y_rows Hr Y t H2.shp.1 G GL L hpr rg ag T (fun h3 R3 g3 Y3 f3 l3 b3 => ?_)
  have X3 : Yx n2 p2 F2 W2 R3 h3 := ⟨H2.lfr f3, ok2, g3, Y3, y_Lnk t L rg T, GL2⟩
  refine m_E.run 2 (pc1 := 678) (ls1 := [some _, some _, some _, some _, some _, some _, some _, some _, some _, some _, some _, some _, some _, some _, some _, some _, some _, some _, none, some _, some _]) (st1 := [_, _]) rfl ?_
  refine m_E.icf (y_nn _) rfl ?_
  refine m_E.run 12 (pc1 := 700) (ls1 := [some _, some _, some _, some _, some _, some _, some _, some _, some _, some _, some _, some _, some _, some _, some _, some _, some _, some _, none, some _, some _]) (st1 := [_, _, _, _, _, _, _, _, _, _]) rfl ?_
  dsimp only
  refine m_E.cv rfl rfl (y_isSo (d := 0) hn X3) ?_
  refine m_E.ift (by decide) rfl ?_
  exact K h3 R3 _ X3 f3 l3 b3
set_option maxRecDepth 100000 in
theorem y_turn {xs : List Int32} {turn a b e kd : Nat} {x y : Int32} {v16 v17 v18 v19 v20 : Option Value} {h : m_Hp} {Q : Option Value → m_Hp → Prop} (hn : y_num) (J : y_J xs turn h) (ht : turn < 46) (rg : y_rg kd a b e) (K : ∀ h2 was told v20, y_J xs (turn + 1) h2 → m_E (m_Call m_P 8) tL_law 708 [some (.ref 3), some (.ref 4), some (.ref 61), some (.ref 62), some (.ref 63), some (.ref 64), some (.ref 65), some (.ref 66), some (.ref 67), some (.ref 68), some (.int (nI turn)), some (.int x), some (.int y), some (.int (nI kd)), some (.int (nI a)), some (.int (nI b)), some (.int (nI e)), some (.long was), none, some (.int told), v20] [] h2 Q) : m_E (m_Call m_P 8) tL_law 481 [some (.ref 3), some (.ref 4), some (.ref 61), some (.ref 62), some (.ref 63), some (.ref 64), some (.ref 65), some (.ref 66), some (.ref 67), some (.ref 68), some (.int (nI turn)), some (.int x), some (.int y), some (.int (nI kd)), some (.int (nI a)), some (.int (nI b)), v16, v17, v18, v19, v20] [.int (nI e)] h Q := by
  obtain ⟨n, p, F, W, R, X, hp, hl, hl2, B, h3⟩ := J
  obtain ⟨HC, okw, H, Y, L, GL⟩ := id X
  have t := okw.1
  have G := HC.gsh
  obtain ⟨h1, p1, n1, F1, W1, H1, ok1, f1, l1, b1, in1, ag1, T1, GL1, no1, so1⟩ := y_call_ok HC okw rg (by omega)
  have sg := y_sign (F := F) t L rg
  have GL1' := GL1 GL L
  have B1 := B.frm f1 b1
  have h31 : h1[3]? = some (.inl (0, xs)) := (f1.2 3 (by omega) (Or.inl (by decide))).trans h3
  have Hr1 : Hrw h1 R := H.off (fun k z1 z2 => f1.2 k (by omega) (Or.inr z1))
  have hpr : c_printed (w_now W) + 1 < 2 ^ 30 := by have := t.2.1; omega
  have hl1 := f1.1
  have fin1 : ∀ was v20, m_E (m_Call m_P 8) tL_law 567 [some (.ref 3), some (.ref 4), some (.ref 61), some (.ref 62), some (.ref 63), some (.ref 64), some (.ref 65), some (.ref 66), some (.ref 67), some (.ref 68), some (.int (nI turn)), some (.int x), some (.int y), some (.int (nI kd)), some (.int (nI a)), some (.int (nI b)), some (.int (nI e)), some (.long was), none, some (.int (y_bk kd a b e F (w_now W)).1), v20] [] h1 Q := fun was v20 => y_fin hn H1 ok1 Hr1 Y t G GL L hpr rg ag1 T1 GL1' (fun h4 R4 v20 X4 f4 l4 b4 => K h4 _ _ _ ⟨n1, p + 1, F1, W1, R4, X4, by omega, by omega, by have := f4.1; omega, B1.lfr f4 b4 X4.2.2.1 X4.2.2.2.1.1, (f4.2 3 (by omega) (Or.inl (by decide))).trans h31⟩)
  refine m_E.run 2 (pc1 := 484) (ls1 := [some _, some _, some _, some _, some _, some _, some _, some _, some _, some _, some _, some _, some _, some _, some _, some _, some _, _, _, _, _]) (st1 := [_]) rfl ?_
  refine m_E.cv rfl rfl (y_told (d := 1) HC okw) ?_
  refine m_E.run 6 (pc1 := 498) (ls1 := [some _, some _, some _, some _, some _, some _, some _, some _, some _, some _, some _, some _, some _, some _, some _, some _, some _, some _, none, _, _]) (st1 := [_, _, _, _, _]) rfl ?_
  refine m_E.cv rfl rfl (p1) ?_
  refine m_E.run 2 (pc1 := 505) (ls1 := [some _, some _, some _, some _, some _, some _, some _, some _, some _, some _, some _, some _, some _, some _, some _, some _, some _, some _, none, some _, _]) (st1 := [_]) rfl ?_
  rcases sg with ⟨s1, s2⟩ | ⟨s1, s2⟩
  · skip
    obtain ⟨rfl, rfl, rfl⟩ := no1 s1
    refine m_E.iff (decide_eq_false (Int32.not_le.mpr s2)) rfl ?_
    refine m_E.run 1 (pc1 := 509) (ls1 := [some _, some _, some _, some _, some _, some _, some _, some _, some _, some _, some _, some _, some _, some _, some _, some _, some _, some _, none, some _, _]) (st1 := [_]) rfl ?_
    refine m_E.cv rfl rfl (y_told (d := 1) H1 ok1) ?_
    refine m_E.run 2 (pc1 := 515) (ls1 := [some _, some _, some _, some _, some _, some _, some _, some _, some _, some _, some _, some _, some _, some _, some _, some _, some _, some _, none, some _, _]) (st1 := [_]) rfl ?_
    refine m_E.ift (by rw [y_lc]; rfl) rfl ?_
    exact fin1 _ _
  · skip
    refine m_E.ift (decide_eq_true (Int32.not_lt.mp s2)) rfl ?_
    refine m_E.run 5 (pc1 := 528) (ls1 := [some _, some _, some _, some _, some _, some _, some _, some _, some _, some _, some _, some _, some _, some _, some _, some _, some _, some _, none, some _, _]) (st1 := [_]) rfl ?_
    dsimp only
    refine m_E.if2 rfl (fun q1 => ?_) (fun q1 => ?_)
    · skip
      exact fin1 _ _
    · skip
      have eW := so1 s1
      obtain ⟨u1, u2⟩ := y_undone (S := w_now W1) HC
      rw [← eW] at u1 u2
      obtain ⟨_, h5, p5, rfl, H5, ok5, f5, l5⟩ := o_undo (d := 2) H1 ok1 u1
      have lsz := H1.hist.2.2.2.2.2.2
      have et := y_tell2 t ag1 u2 24
      have ev := y_bkF (kd := kd) (a := a) (b := b) (e := e) t ag1 rg
      obtain ⟨h6, p6, n6, F6, W6, H6, ok6, f6, l6, b6, in6, ag6, T6, GL6, no6, so6⟩ := y_call_ok H5 ok5 rg (by omega)
      rw [u2] at p6 T6 GL6
      rw [ev] at p6
      have B5 : Bd h5 := B1.frm f5 (y_nlen l5)
      have B6 : Bd h6 := B5.frm f6 b6
      have h36 : h6[3]? = some (.inl (0, xs)) := (f6.2 3 (by omega) (Or.inl (by decide))).trans ((f5.2 3 (by omega) (Or.inl (by decide))).trans h31)
      have Hr6 : Hrw h6 R := Hr1.off (fun k z1 z2 => (f6.2 k (by omega) (Or.inr z1)).trans (f5.2 k (by omega) (Or.inr z1)))
      have hl6 := f6.1
      refine m_E.run 1 (pc1 := 532) (ls1 := [some _, some _, some _, some _, some _, some _, some _, some _, some _, some _, some _, some _, some _, some _, some _, some _, some _, some _, none, some _, _]) (st1 := [_]) rfl ?_
      refine m_E.ov H1.o (by decide) rfl rfl rfl (p5) ?_
      refine m_E.iff (m_lt0 (by omega)) rfl ?_
      refine m_E.run 1 (pc1 := 539) (ls1 := [some _, some _, some _, some _, some _, some _, some _, some _, some _, some _, some _, some _, some _, some _, some _, some _, some _, some _, none, some _, _]) (st1 := [_]) rfl ?_
      refine m_E.cv rfl rfl (y_told (d := 1) H5 ok5) ?_
      rw [et]
      refine m_E.run 2 (pc1 := 545) (ls1 := [some _, some _, some _, some _, some _, some _, some _, some _, some _, some _, some _, some _, some _, some _, some _, some _, some _, some _, none, some _, _]) (st1 := [_]) rfl ?_
      refine m_E.iff (by rw [y_lc]; rfl) rfl ?_
      refine m_E.run 5 (pc1 := 557) (ls1 := [some _, some _, some _, some _, some _, some _, some _, some _, some _, some _, some _, some _, some _, some _, some _, some _, some _, some _, none, some _, _]) (st1 := [_, _, _, _, _]) rfl ?_
      refine m_E.cv rfl rfl (p6) ?_
      refine m_E.run 1 (pc1 := 562) (ls1 := [some _, some _, some _, some _, some _, some _, some _, some _, some _, some _, some _, some _, some _, some _, some _, some _, some _, some _, none, some _, _]) (st1 := [_, _]) rfl ?_
      refine m_E.ict (by simp) rfl ?_
      rw [← ev]
      exact y_fin hn H6 ok6 Hr6 (Y.eqF t ag1) (t.up in1 (Nat.le_succ p)) H1.gsh GL1' L hpr rg ag6 T6 (GL6 GL1' L) (fun h4 R4 v20 X4 f4 l4 b4 => K h4 _ _ _ ⟨n6, p + 1 + 1, F6, W6, R4, X4, by omega, by omega, by have := f4.1; omega, B6.lfr f4 b4 X4.2.2.1 X4.2.2.2.1.1, (f4.2 3 (by omega) (Or.inl (by decide))).trans h36⟩)
