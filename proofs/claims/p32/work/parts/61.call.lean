/-! the law's calls of an object -/
theorem y_call0 {d : Nat} {n : List Nat} {p : Nat} {F : Nat → c_Sh} {W : c_W} {a b e : Int32} {h : m_Hp} (H : Hcl h n F W) (ok : Okw n p W) : ∃ r h', m_Call m_P (d + 8) 87 [.ref 4, .int (nI 0), .int a, .int b, .int e] (h) r h' ∧ (Opq n p F W h (b_swap (w_now W) a b).1 (b_swap (w_now W) a b).2) r h' := by
  refine m_call_ex (tab := tL_call) (nL := 5) rfl rfl ?_
  refine m_E.run 1 (pc1 := 1) (ls1 := [some _, some _, some _, some _, some _]) (st1 := [_]) rfl ?_
  refine m_E.tsw (t := 56) (by decide) rfl ?_
  obtain ⟨_, h2, p2, rfl, q⟩ := o_swap (d := d + 1) (x := a) (y := b) H ok
  refine m_E.run 3 (pc1 := 59) (ls1 := [some _, some _, some _, some _, some _]) (st1 := [_, _, _]) rfl ?_
  refine m_E.ov H.o (by decide) rfl rfl rfl (p2) ?_
  exact m_E.iret rfl ⟨rfl, q⟩
theorem y_call1 {d : Nat} {n : List Nat} {p : Nat} {F : Nat → c_Sh} {W : c_W} {a b e : Int32} {h : m_Hp} (H : Hcl h n F W) (ok : Okw n p W) {is : Bool} (he : e = m_bI is) : ∃ r h', m_Call m_P (d + 8) 87 [.ref 4, .int (nI 1), .int a, .int b, .int e] (h) r h' ∧ (Opq n p F W h (b_mark (w_now W) a b is).1 (b_mark (w_now W) a b is).2) r h' := by
  refine m_call_ex (tab := tL_call) (nL := 5) rfl rfl ?_
  refine m_E.run 1 (pc1 := 1) (ls1 := [some _, some _, some _, some _, some _]) (st1 := [_]) rfl ?_
  refine m_E.tsw (t := 63) (by decide) rfl ?_
  subst he
  obtain ⟨_, h2, p2, rfl, q⟩ := o_mark (d := d + 1) (x := a) (y := b) H ok (rfl : m_bI is = m_bI is)
  refine m_E.run 5 (pc1 := 69) (ls1 := [some _, some _, some _, some _, some _]) (st1 := [_, _, _, _, _]) rfl ?_
  cases is
  · skip
    refine m_E.ict (by decide) rfl ?_
    refine m_E.run 1 (pc1 := 77) (ls1 := [some _, some _, some _, some _, some _]) (st1 := [_, _, _, _]) rfl ?_
    refine m_E.ov H.o (by decide) rfl rfl rfl (p2) ?_
    exact m_E.iret rfl ⟨rfl, q⟩
  · skip
    refine m_E.icf (by decide) rfl ?_
    refine m_E.run 2 (pc1 := 77) (ls1 := [some _, some _, some _, some _, some _]) (st1 := [_, _, _, _]) rfl ?_
    refine m_E.ov H.o (by decide) rfl rfl rfl (p2) ?_
    exact m_E.iret rfl ⟨rfl, q⟩
theorem y_call2 {d : Nat} {n : List Nat} {p : Nat} {F : Nat → c_Sh} {W : c_W} {a b e : Int32} {h : m_Hp} (H : Hcl h n F W) (ok : Okw n p W) : ∃ r h', m_Call m_P (d + 8) 87 [.ref 4, .int (nI 2), .int a, .int b, .int e] (h) r h' ∧ (Opq n p F W h (b_lean (w_now W) a (e - nI 9)).1 (b_lean (w_now W) a (e - nI 9)).2) r h' := by
  refine m_call_ex (tab := tL_call) (nL := 5) rfl rfl ?_
  refine m_E.run 1 (pc1 := 1) (ls1 := [some _, some _, some _, some _, some _]) (st1 := [_]) rfl ?_
  refine m_E.tsw (t := 81) (by decide) rfl ?_
  obtain ⟨_, h2, p2, rfl, q⟩ := o_lean (d := d + 1) (x := a) (y := e - nI 9) H ok
  refine m_E.run 5 (pc1 := 88) (ls1 := [some _, some _, some _, some _, some _]) (st1 := [_, _, _]) rfl ?_
  dsimp only
  refine m_E.ov H.o (by decide) rfl rfl rfl (p2) ?_
  exact m_E.iret rfl ⟨rfl, q⟩
theorem y_call3 {d : Nat} {n : List Nat} {p : Nat} {F : Nat → c_Sh} {W : c_W} {a b e : Int32} {h : m_Hp} (H : Hcl h n F W) (ok : Okw n p W) : ∃ r h', m_Call m_P (d + 8) 87 [.ref 4, .int (nI 3), .int a, .int b, .int e] (h) r h' ∧ (Opq n p F W h (b_set (w_now W) a b).1 (b_set (w_now W) a b).2) r h' := by
  refine m_call_ex (tab := tL_call) (nL := 5) rfl rfl ?_
  refine m_E.run 1 (pc1 := 1) (ls1 := [some _, some _, some _, some _, some _]) (st1 := [_]) rfl ?_
  refine m_E.tsw (t := 92) (by decide) rfl ?_
  obtain ⟨_, h2, p2, rfl, q⟩ := o_set (d := d + 1) (x := a) (y := b) H ok
  refine m_E.run 3 (pc1 := 95) (ls1 := [some _, some _, some _, some _, some _]) (st1 := [_, _, _]) rfl ?_
  refine m_E.ov H.o (by decide) rfl rfl rfl (p2) ?_
  exact m_E.iret rfl ⟨rfl, q⟩
theorem y_call4f {d : Nat} {n : List Nat} {p : Nat} {F : Nat → c_Sh} {W : c_W} {a b e : Int32} {h : m_Hp} (H : Hcl h n F W) (ok : Okw n p W) {tu : Bool} (hf : ¬ c_piled (w_now W) < 6) (ha : a = m_bI tu) : ∃ r h', m_Call m_P (d + 8) 87 [.ref 4, .int (nI 4), .int a, .int b, .int e] (h) r h' ∧ (Opq n p F W h (-3) none) r h' := by
  refine m_call_ex (tab := tL_call) (nL := 5) rfl rfl ?_
  refine m_E.run 1 (pc1 := 1) (ls1 := [some _, some _, some _, some _, some _]) (st1 := [_]) rfl ?_
  refine m_E.tsw (t := 99) (by decide) rfl ?_
  subst ha
  obtain ⟨_, h2, p2, rfl, q⟩ := o_printFull (d := d + 1) (x := m_bI tu) H ok hf
  refine m_E.run 3 (pc1 := 102) (ls1 := [some _, some _, some _, some _, some _]) (st1 := [_, _, _]) rfl ?_
  cases tu
  · skip
    refine m_E.ict (by decide) rfl ?_
    refine m_E.run 1 (pc1 := 110) (ls1 := [some _, some _, some _, some _, some _]) (st1 := [_, _]) rfl ?_
    refine m_E.ov H.o (by decide) rfl rfl rfl (p2) ?_
    exact m_E.iret rfl ⟨rfl, q⟩
  · skip
    refine m_E.icf (by decide) rfl ?_
    refine m_E.run 2 (pc1 := 110) (ls1 := [some _, some _, some _, some _, some _]) (st1 := [_, _]) rfl ?_
    refine m_E.ov H.o (by decide) rfl rfl rfl (p2) ?_
    exact m_E.iret rfl ⟨rfl, q⟩
theorem y_call4 {d : Nat} {n : List Nat} {p : Nat} {F : Nat → c_Sh} {W : c_W} {a b e : Int32} {h : m_Hp} (H : Hcl h n F W) (ok : Okw n p W) {tu : Bool} (hf : c_piled (w_now W) < 6) (hp : p + 1 < 2 ^ 30) (ha : a = m_bI tu) : ∃ r h', m_Call m_P (d + 8) 87 [.ref 4, .int (nI 4), .int a, .int b, .int e] (h) r h' ∧ (fun r h2 => r = some (.int (nI (c_piled (w_now W) + 1))) ∧ Hcl h2 (h.length :: n) (g_upd F h.length (g_sheet (w_now W) tu)) (w_S (w_rec W) (g_printed (w_now W) h.length)) ∧ Okw (h.length :: n) (p + 1) (w_S (w_rec W) (g_printed (w_now W) h.length)) ∧ Frm h h2 ∧ h2.length = h.length + 4) r h' := by
  refine m_call_ex (tab := tL_call) (nL := 5) rfl rfl ?_
  refine m_E.run 1 (pc1 := 1) (ls1 := [some _, some _, some _, some _, some _]) (st1 := [_]) rfl ?_
  refine m_E.tsw (t := 99) (by decide) rfl ?_
  subst ha
  obtain ⟨_, h2, p2, rfl, q⟩ := o_print (d := d + 1) (x := m_bI tu) H ok hf hp rfl
  refine m_E.run 3 (pc1 := 102) (ls1 := [some _, some _, some _, some _, some _]) (st1 := [_, _, _]) rfl ?_
  cases tu
  · skip
    refine m_E.ict (by decide) rfl ?_
    refine m_E.run 1 (pc1 := 110) (ls1 := [some _, some _, some _, some _, some _]) (st1 := [_, _]) rfl ?_
    refine m_E.ov H.o (by decide) rfl rfl rfl (p2) ?_
    exact m_E.iret rfl ⟨rfl, q⟩
  · skip
    refine m_E.icf (by decide) rfl ?_
    refine m_E.run 2 (pc1 := 110) (ls1 := [some _, some _, some _, some _, some _]) (st1 := [_, _]) rfl ?_
    refine m_E.ov H.o (by decide) rfl rfl rfl (p2) ?_
    exact m_E.iret rfl ⟨rfl, q⟩
theorem y_call5 {d : Nat} {n : List Nat} {p : Nat} {F : Nat → c_Sh} {W : c_W} {a b e : Int32} {h : m_Hp} (H : Hcl h n F W) (ok : Okw n p W) : ∃ r h', m_Call m_P (d + 8) 87 [.ref 4, .int (nI 5), .int a, .int b, .int e] (h) r h' ∧ (Opq n p F W h (b_cut F (w_now W) a).1 (b_cut F (w_now W) a).2) r h' := by
  refine m_call_ex (tab := tL_call) (nL := 5) rfl rfl ?_
  refine m_E.run 1 (pc1 := 1) (ls1 := [some _, some _, some _, some _, some _]) (st1 := [_]) rfl ?_
  refine m_E.tsw (t := 114) (by decide) rfl ?_
  obtain ⟨_, h2, p2, rfl, q⟩ := o_cutSheet (d := d + 1) (x := a) H ok
  refine m_E.run 2 (pc1 := 116) (ls1 := [some _, some _, some _, some _, some _]) (st1 := [_, _]) rfl ?_
  refine m_E.ov H.o (by decide) rfl rfl rfl (p2) ?_
  exact m_E.iret rfl ⟨rfl, q⟩
theorem y_call6 {d : Nat} {n : List Nat} {p : Nat} {F : Nat → c_Sh} {W : c_W} {a b e : Int32} {h : m_Hp} (H : Hcl h n F W) (ok : Okw n p W) : ∃ r h', m_Call m_P (d + 8) 87 [.ref 4, .int (nI 6), .int a, .int b, .int e] (h) r h' ∧ (Opq n p F W h (b_cutp (w_now W) a).1 (b_cutp (w_now W) a).2) r h' := by
  refine m_call_ex (tab := tL_call) (nL := 5) rfl rfl ?_
  refine m_E.run 1 (pc1 := 1) (ls1 := [some _, some _, some _, some _, some _]) (st1 := [_]) rfl ?_
  refine m_E.tsw (t := 120) (by decide) rfl ?_
  obtain ⟨_, h2, p2, rfl, q⟩ := o_cutPack (d := d + 1) (x := a) H ok
  refine m_E.run 2 (pc1 := 122) (ls1 := [some _, some _, some _, some _, some _]) (st1 := [_, _]) rfl ?_
  refine m_E.ov H.o (by decide) rfl rfl rfl (p2) ?_
  exact m_E.iret rfl ⟨rfl, q⟩
theorem y_call7 {d : Nat} {n : List Nat} {p : Nat} {F : Nat → c_Sh} {W : c_W} {a b e : Int32} {h : m_Hp} (H : Hcl h n F W) (ok : Okw n p W) : ∃ r h', m_Call m_P (d + 8) 87 [.ref 4, .int (nI 7), .int a, .int b, .int e] (h) r h' ∧ (Opq n p F W h (b_shuf (w_now W) a).1 (b_shuf (w_now W) a).2) r h' := by
  refine m_call_ex (tab := tL_call) (nL := 5) rfl rfl ?_
  refine m_E.run 1 (pc1 := 1) (ls1 := [some _, some _, some _, some _, some _]) (st1 := [_]) rfl ?_
  refine m_E.tsw (t := 126) (by decide) rfl ?_
  obtain ⟨_, h2, p2, rfl, q⟩ := o_shuffle (d := d + 1) (x := a) H ok
  refine m_E.run 2 (pc1 := 128) (ls1 := [some _, some _, some _, some _, some _]) (st1 := [_, _]) rfl ?_
  refine m_E.ov H.o (by decide) rfl rfl rfl (p2) ?_
  exact m_E.iret rfl ⟨rfl, q⟩
theorem y_call8 {d : Nat} {n : List Nat} {p : Nat} {F : Nat → c_Sh} {W : c_W} {a b e : Int32} {h : m_Hp} (H : Hcl h n F W) (ok : Okw n p W) : ∃ r h', m_Call m_P (d + 8) 87 [.ref 4, .int (nI 8), .int a, .int b, .int e] (h) r h' ∧ (Opq n p F W h (b_deal (w_now W) a).1 (b_deal (w_now W) a).2) r h' := by
  refine m_call_ex (tab := tL_call) (nL := 5) rfl rfl ?_
  refine m_E.run 1 (pc1 := 1) (ls1 := [some _, some _, some _, some _, some _]) (st1 := [_]) rfl ?_
  refine m_E.tsw (t := 132) (by decide) rfl ?_
  obtain ⟨_, h2, p2, rfl, q⟩ := o_deal (d := d + 1) (x := a) H ok
  refine m_E.run 2 (pc1 := 134) (ls1 := [some _, some _, some _, some _, some _]) (st1 := [_, _]) rfl ?_
  refine m_E.ov H.o (by decide) rfl rfl rfl (p2) ?_
  exact m_E.iret rfl ⟨rfl, q⟩
theorem y_call9 {d : Nat} {n : List Nat} {p : Nat} {F : Nat → c_Sh} {W : c_W} {a b e : Int32} {h : m_Hp} (H : Hcl h n F W) (ok : Okw n p W) : ∃ r h', m_Call m_P (d + 8) 87 [.ref 4, .int (nI 9), .int a, .int b, .int e] (h) r h' ∧ (Opq n p F W h (b_sell F (w_now W)).1 (b_sell F (w_now W)).2) r h' := by
  refine m_call_ex (tab := tL_call) (nL := 5) rfl rfl ?_
  refine m_E.run 1 (pc1 := 1) (ls1 := [some _, some _, some _, some _, some _]) (st1 := [_]) rfl ?_
  refine m_E.tsw (t := 138) (by decide) rfl ?_
  obtain ⟨_, h2, p2, rfl, q⟩ := o_sell (d := d) H ok
  refine m_E.run 1 (pc1 := 139) (ls1 := [some _, some _, some _, some _, some _]) (st1 := [_]) rfl ?_
  refine m_E.ov H.o (by decide) rfl rfl rfl (p2) ?_
  exact m_E.iret rfl ⟨rfl, q⟩
theorem y_call10 {d : Nat} {n : List Nat} {p : Nat} {F : Nat → c_Sh} {W : c_W} {a b e : Int32} {h : m_Hp} (H : Hcl h n F W) (ok : Okw n p W) : ∃ r h', m_Call m_P (d + 8) 87 [.ref 4, .int (nI 10), .int a, .int b, .int e] (h) r h' ∧ (Opq n p F W h (b_pulp (w_now W)).1 (b_pulp (w_now W)).2) r h' := by
  refine m_call_ex (tab := tL_call) (nL := 5) rfl rfl ?_
  refine m_E.run 1 (pc1 := 1) (ls1 := [some _, some _, some _, some _, some _]) (st1 := [_]) rfl ?_
  refine m_E.tsw (t := 143) (by decide) rfl ?_
  obtain ⟨_, h2, p2, rfl, q⟩ := o_pulp (d := d + 1) H ok
  refine m_E.run 1 (pc1 := 144) (ls1 := [some _, some _, some _, some _, some _]) (st1 := [_]) rfl ?_
  refine m_E.ov H.o (by decide) rfl rfl rfl (p2) ?_
  exact m_E.iret rfl ⟨rfl, q⟩
