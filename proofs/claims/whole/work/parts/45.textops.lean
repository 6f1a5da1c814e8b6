/-! the calls on the text -/
theorem Okx.sign {X : c_Tx} (ok : Okx X) (hl : x_len X < 60) {c : Nat} (hc : c < 65536) : Okx (x_setLen (x_setSigns X ((x_signs X).set (x_len X) c)) (x_len X + 1)) := by
  obtain ⟨k1, k2, k3, k4⟩ := ok
  exact ⟨(List.length_set ..).trans k1, g_mem_set k2 hc, hl, k4⟩
def x_type (X : c_Tx) (c : Nat) : c_Tx := x_setLen (x_setSigns X ((x_signs X).set (x_len X) c)) (x_len X + 1)
def Opx (n p : Nat) (F : Nat → c_Sh) (W : c_W) (h : m_Hp) (v : Int32) (X : c_Tx) : Option Value → m_Hp → Prop := fun r h2 => r = some (.int v) ∧ Hcl h2 n F (w_X W X) ∧ Okw n p (w_X W X) ∧ Frm h h2 ∧ h2.length = h.length
theorem w_X_self (W : c_W) : w_X W (w_text W) = W := rfl
theorem o_type {d : Nat} {n p c : Nat} {F : Nat → c_Sh} {W : c_W} {x : Int32} {h : m_Hp} (H : Hcl h n F W) (ok : Okw n p W) (hx : x = nI c) (hc : c < 65536) : ∃ r h', m_Call m_P (d + 6) 63 [.ref 4, .int x] (h) r h' ∧ (Opx n p F W h (if x_len (w_text W) < 60 then nI (x_len (w_text W) + 1) else -3) (if x_len (w_text W) < 60 then x_type (w_text W) c else w_text W)) r h' := by
  refine m_call_ex (tab := tX5_type) (nL := 2) rfl rfl ?_
  subst hx
  have k3 := ok.2.2.2.2.2.1
  refine m_E.run 1 (pc1 := 1) (ls1 := [some _, some _]) (st1 := [_]) rfl ?_
  refine m_E.gf H.o (by decide) rfl rfl ?_
  refine m_E.gf H.tx.2.1 (by decide) rfl rfl ?_
  refine m_E.run 1 (pc1 := 9) (ls1 := [some _, some _]) (st1 := [_, _]) rfl ?_
  by_cases e : x_len (w_text W) < 60
  · skip
    rw [if_pos e, if_pos e]
    refine m_E.ict ((m_ltI (by omega) (by omega)).trans (decide_eq_true e)) rfl ?_
    refine m_E.run 1 (pc1 := 16) (ls1 := [some _, some _]) (st1 := [_]) rfl ?_
    refine m_E.gf H.o (by decide) rfl rfl ?_
    refine m_E.run 1 (pc1 := 20) (ls1 := [some _, some _]) (st1 := [_, _]) rfl ?_
    obtain ⟨_, h2, p2, rfl, g2, c2⟩ := c_append (d := d + 4) H.tx ok.2.2.2 e (rfl : nI c = nI c) hc
    refine m_E.on H.tx.2.1 (by decide) rfl rfl rfl (p2) ?_
    have H2 := H.setX c2 g2
    refine m_E.run 1 (pc1 := 24) (ls1 := [some _, some _]) (st1 := [_]) rfl ?_
    refine m_E.gf H2.o (by decide) rfl rfl ?_
    refine m_E.gf H2.tx.2.1 (by decide) rfl rfl ?_
    exact m_E.iret rfl ⟨rfl, H2, ok.setX (ok.2.2.2.sign e hc), c2.frm (by decide) (by decide), c2.1⟩
  · skip
    rw [if_neg e, if_neg e]
    refine m_E.icf ((m_ltI (by omega) (by omega)).trans (decide_eq_false e)) rfl ?_
    refine m_E.run 1 (pc1 := 14) (ls1 := [some _, some _]) (st1 := [_]) rfl ?_
    exact m_E.iret rfl ⟨rfl, H, ok, Frm.rf, rfl⟩
theorem o_clearText {d : Nat} {n p : Nat} {F : Nat → c_Sh} {W : c_W} {h : m_Hp} (H : Hcl h n F W) (ok : Okw n p W) : ∃ r h', m_Call m_P (d + 6) 64 [.ref 4] (h) r h' ∧ (Opx n p F W h (nI (x_len (w_text W))) (x_setLen (w_text W) 0)) r h' := by
  refine m_call_ex (tab := tX5_clearText) (nL := 2) rfl rfl ?_
  refine m_E.run 1 (pc1 := 1) (ls1 := [some _, none]) (st1 := [_]) rfl ?_
  refine m_E.gf H.o (by decide) rfl rfl ?_
  refine m_E.gf H.tx.2.1 (by decide) rfl rfl ?_
  refine m_E.run 2 (pc1 := 9) (ls1 := [some _, some _]) (st1 := [_]) rfl ?_
  refine m_E.gf H.o (by decide) rfl rfl ?_
  refine m_E.run 1 (pc1 := 13) (ls1 := [some _, some _]) (st1 := [_, _]) rfl ?_
  refine H.tx.p1 (v := 0) rfl rfl (fun h2 g2 c2 => ?_)
  have H2 := H.setX c2 g2
  refine m_E.run 1 (pc1 := 17) (ls1 := [some _, some _]) (st1 := [_]) rfl ?_
  exact m_E.iret rfl ⟨rfl, H2, ok.setX ⟨ok.2.2.2.1, ok.2.2.2.2.1, Nat.zero_le _, ok.2.2.2.2.2.2⟩, c2.frm (by decide) (by decide), c2.1⟩
def x_run (X : c_Tx) : Option Nat × List (Nat × Nat × Int32) := p_run (x_sg X) (x_len X) 60 0 []
theorem o_fault {d : Nat} {n p : Nat} {F : Nat → c_Sh} {W : c_W} {h : m_Hp} (H : Hcl h n F W) (ok : Okw n p W) : ∃ r h', m_Call m_P (d + 6) 65 [.ref 4] (h) r h' ∧ (fun r h2 => ∃ Y, x_signs Y = x_signs (w_text W) ∧ x_len Y = x_len (w_text W) ∧ Opx n p F W h (p_oI (x_run (w_text W)).1) Y r h2) r h' := by
  refine m_call_ex (tab := tX5_fault) (nL := 1) rfl rfl ?_
  refine m_E.run 1 (pc1 := 1) (ls1 := [some _]) (st1 := [_]) rfl ?_
  refine m_E.gf H.o (by decide) rfl rfl ?_
  obtain ⟨_, h2, p2, rfl, Y, g2, okY, e1, e2, e3, c2⟩ := c_findFault (d := d) H.tx ok.2.2.2
  refine m_E.ov H.tx.2.1 (by decide) rfl rfl rfl (p2) ?_
  exact m_E.iret rfl ⟨Y, e1, e2, rfl, H.setX c2 g2, ok.setX okY, c2.frm (by decide) (by decide), c2.1⟩
theorem p_run_ok {sg : Nat → Nat} {len : Nat} (hz : ∀ j, sg j ≠ 0 → j < len) : ∀ fuel a L, a ≤ len → (∀ r, r ∈ L → p_okc r) → ∀ r, r ∈ (p_run sg len fuel a L).2 → p_okc r
  | 0, a, L, _, h, r, hr => h r hr
  | fuel + 1, a, L, ha, h, r, hr => by
    have pp := p_change_pos hz ha
    rcases ec : p_change sg a with ⟨_ | c, n⟩
    · rw [p_run, ec] at hr
      exact h r hr
    · rw [ec] at pp
      obtain ⟨_, q2, q3⟩ := pp
      have hL : ∀ r, r ∈ L ++ [c] → p_okc r := fun r hr => by
        rcases List.mem_append.mp hr with z | z
        · exact h r z
        · rw [List.mem_singleton.mp z]; exact (q3 c rfl).2
      rw [p_run, ec] at hr
      dsimp only at hr q2
      by_cases e1 : n = len
      · rw [if_pos e1] at hr; exact hL r hr
      · rw [if_neg e1] at hr
        by_cases e2 : sg n = 59
        · rw [if_pos e2] at hr
          exact p_run_ok hz fuel (n + 1) (L ++ [c]) (by omega) hL r hr
        · rw [if_neg e2] at hr; exact hL r hr
theorem p_run_le {sg : Nat → Nat} {len : Nat} (hz : ∀ j, sg j ≠ 0 → j < len) : ∀ fuel a L, a ≤ len → ∀ m, (p_run sg len fuel a L).1 = some m → m ≤ len
  | 0, a, L, ha, m, hm => by rw [← Option.some.inj hm]; exact ha
  | fuel + 1, a, L, ha, m, hm => by
    have pp := p_change_pos hz ha
    rcases ec : p_change sg a with ⟨_ | c, n⟩
    · rw [ec] at pp
      rw [p_run, ec] at hm
      rw [← Option.some.inj hm]; exact pp.2.1
    · rw [ec] at pp
      obtain ⟨_, q2, q3⟩ := pp
      rw [p_run, ec] at hm
      dsimp only at hm q2
      by_cases e1 : n = len
      · rw [if_pos e1] at hm; cases hm
      · rw [if_neg e1] at hm
        by_cases e2 : sg n = 59
        · rw [if_pos e2] at hm
          exact p_run_le hz fuel (n + 1) (L ++ [c]) (by omega) m hm
        · rw [if_neg e2] at hm
          rw [← Option.some.inj hm]; exact q2
def g_do (S : c_St) (r : Nat × Nat × Int32) : c_St := if r.1 = 115 then c_xch S r.2.1 r.2.2.toNatClampNeg else if r.1 = 108 then c_setLeans S ((c_leans S).set r.2.1 r.2.2) else c_mark S r.2.1 r.2.2.toNatClampNeg (decide (r.1 = 109))
theorem Tok.do {n p : Nat} {S : c_St} (t : Tok n p S) {r : Nat × Nat × Int32} (hr : p_okc r) : Tok n p (g_do S r) := by
  obtain ⟨h1, h2, s, h3, h4⟩ := hr
  rw [g_do]
  unfold p_most at h3
  by_cases e1 : r.1 = 115
  · rw [if_pos e1] at h3 ⊢
    refine t.xch h2 ?_
    rcases h4 with z | z
    · rw [z, m_cl (by omega)]; omega
    · omega
  · rw [if_neg e1] at h3 ⊢
    by_cases e2 : r.1 = 108
    · rw [if_pos e2]; exact t.lean
    · rw [if_neg e2] at h3 ⊢
      refine t.mark h2 ?_
      rcases h4 with z | z
      · rw [z, m_cl (by omega)]; omega
      · omega
theorem c_doChange {d : Nat} {n p k f : Nat} {F : Nat → c_Sh} {W : c_W} {x y s : Int32} {h : m_Hp} (H : Hcl h n F W) (ok : Okw n p W) (hx : x = nI k) (hy : y = nI f) (hr : p_okc (k, f, s)) : ∃ r h', m_Call m_P (d + 4) 80 [.ref 4, .int x, .int y, .int s] (h) r h' ∧ (fun r h2 => r = none ∧ Hcl h2 n F (w_S W (g_do (w_now W) (k, f, s))) ∧ Frm h h2 ∧ h2.length = h.length) r h' := by
  refine m_call_ex (tab := tX5_doChange) (nL := 4) rfl rfl ?_
  subst hx hy
  have lc := ok.1.1.1
  have ll := ok.1.1.2.2.1
  have lb := ok.1.1.2.2.2.1
  have lk : k < 200 := by rcases hr.1 with z | z | z | z <;> (dsimp only at z; omega)
  obtain ⟨h1, h2, v, h3, h4⟩ := id hr
  dsimp only at h1 h2 h3 h4
  unfold p_most at h3
  refine m_E.run 2 (pc1 := 3) (ls1 := [some _, some _, some _, some _]) (st1 := [_, _]) rfl ?_
  by_cases e1 : k = 115
  · skip
    have ev : s = nI v := by rcases h4 with z | z; exact z; omega
    subst ev
    rw [if_pos e1] at h3
    have eg : g_do (w_now W) (k, f, nI v) = c_xch (w_now W) f v := by rw [g_do, if_pos e1, m_cl (by omega)]
    rw [eg]
    refine m_E.icf (by rw [e1]; rfl) rfl ?_
    refine m_E.run 1 (pc1 := 7) (ls1 := [some _, some _, some _, some _]) (st1 := [_]) rfl ?_
    refine m_E.gf H.o (by decide) rfl rfl ?_
    refine m_E.run 2 (pc1 := 12) (ls1 := [some _, some _, some _, some _]) (st1 := [_, _, _]) rfl ?_
    refine m_E.on H.now.2.1 (by decide) rfl rfl rfl (c_exchange (d := d + 1) H.now ok.1.1 rfl h2 rfl (show v < 24 by omega)) ?_
    refine m_E.mv (P := fun h2 => Hst h2 5 (c_xch (w_now W) f v) ∧ Chg 5 13 h h2) ⟨H.now.s1 _, Chg.set (by omega) (by omega)⟩ (fun h2 q2 => ?_)
    refine m_E.run 1 (pc1 := 59) (ls1 := [some _, some _, some _, some _]) (st1 := []) rfl ?_
    exact m_E.vret rfl ⟨rfl, H.setS q2.2 q2.1, q2.2.frm (by decide) (by decide), q2.2.1⟩
  · skip
    rw [if_neg e1] at h3
    refine m_E.ict ((m_neI (by omega) (by omega)).trans (decide_eq_true e1)) rfl ?_
    refine m_E.run 2 (pc1 := 21) (ls1 := [some _, some _, some _, some _]) (st1 := [_, _]) rfl ?_
    by_cases e2 : k = 108
    · skip
      have eg : g_do (w_now W) (k, f, s) = c_setLeans (w_now W) ((c_leans (w_now W)).set f s) := by rw [g_do, if_neg e1, if_pos e2]
      rw [eg]
      refine m_E.icf (by rw [e2]; rfl) rfl ?_
      refine m_E.run 1 (pc1 := 25) (ls1 := [some _, some _, some _, some _]) (st1 := [_]) rfl ?_
      refine m_E.gf H.o (by decide) rfl rfl ?_
      refine m_E.gf H.now.2.1 (by decide) rfl rfl ?_
      refine m_E.run 2 (pc1 := 33) (ls1 := [some _, some _, some _, some _]) (st1 := [_, _, _]) rfl ?_
      refine m_E.cn rfl rfl (c_put H.now.2.2.2.1 (by decide) rfl (by omega) (by omega)) ?_
      refine m_E.mv (P := fun h2 => Hst h2 5 (c_setLeans (w_now W) ((c_leans (w_now W)).set f s)) ∧ Chg 5 13 h h2) ⟨H.now.s2 _, Chg.set (by omega) (by omega)⟩ (fun h2 q2 => ?_)
      refine m_E.run 1 (pc1 := 59) (ls1 := [some _, some _, some _, some _]) (st1 := []) rfl ?_
      exact m_E.vret rfl ⟨rfl, H.setS q2.2 q2.1, q2.2.frm (by decide) (by decide), q2.2.1⟩
    · skip
      have ev : s = nI v := by rcases h4 with z | z; exact z; omega
      subst ev
      rw [if_neg e2] at h3
      have eg : g_do (w_now W) (k, f, nI v) = c_mark (w_now W) f v (decide (k = 109)) := by rw [g_do, if_neg e1, if_neg e2, m_cl (by omega)]
      rw [eg]
      refine m_E.ict ((m_neI (by omega) (by omega)).trans (decide_eq_true e2)) rfl ?_
      refine m_E.run 1 (pc1 := 40) (ls1 := [some _, some _, some _, some _]) (st1 := [_]) rfl ?_
      refine m_E.gf H.o (by decide) rfl rfl ?_
      refine m_E.run 4 (pc1 := 48) (ls1 := [some _, some _, some _, some _]) (st1 := [_, _, _, _, _]) rfl ?_
      have fin : ∀ is, is = decide (k = 109) → m_E (m_Call m_P (d + 3)) tX5_doChange 56 [some (.ref 4), some (.int (nI k)), some (.int (nI f)), some (.int (nI v))] [.int (m_bI is), .int (nI v), .int (nI f), .ref 5] h (fun r h2 => r = none ∧ Hcl h2 n F (w_S W (c_mark (w_now W) f v (decide (k = 109)))) ∧ Frm h h2 ∧ h2.length = h.length) := by
        intro is eis
        rw [← eis]
        refine m_E.on H.now.2.1 (by decide) rfl rfl rfl (c_setMark (d := d + 1) (is := is) H.now ok.1.1 rfl h2 rfl (show v < 4 by omega) rfl) ?_
        refine m_E.mv (P := fun h2 => Hst h2 5 (c_mark (w_now W) f v is) ∧ Chg 5 13 h h2) ⟨H.now.s3 _, Chg.set (by omega) (by omega)⟩ (fun h2 q2 => ?_)
        exact m_E.vret rfl ⟨rfl, H.setS q2.2 q2.1, q2.2.frm (by decide) (by decide), q2.2.1⟩
      by_cases e3 : k = 109
      · skip
        refine m_E.icf (by rw [e3]; rfl) rfl ?_
        refine m_E.run 2 (pc1 := 56) (ls1 := [some _, some _, some _, some _]) (st1 := [_, _, _, _]) rfl ?_
        exact fin true (decide_eq_true e3).symm
      · skip
        refine m_E.ict ((m_neI (by omega) (by omega)).trans (decide_eq_true e3)) rfl ?_
        refine m_E.run 1 (pc1 := 56) (ls1 := [some _, some _, some _, some _]) (st1 := [_, _, _, _]) rfl ?_
        exact fin false (decide_eq_false e3).symm
def b_chg (S : c_St) (X : c_Tx) : Int32 × Option c_St := match x_run X with
  | (some n, _) => (-100 - nI n, none)
  | (none, L) => if L.any p_bad = true then (-4, none) else (nI L.length, some (L.foldl g_do S))
theorem o_changeAll {d : Nat} {n p : Nat} {F : Nat → c_Sh} {W0 : c_W} {h : m_Hp} (H0 : Hcl h n F W0) (ok0 : Okw n p W0) : ∃ r h', m_Call m_P (d + 6) 54 [.ref 4] (h) r h' ∧ (fun r h2 => ∃ Y, x_signs Y = x_signs (w_text W0) ∧ x_len Y = x_len (w_text W0) ∧ Opq n p F (w_X W0 Y) h (b_chg (w_now W0) (w_text W0)).1 (b_chg (w_now W0) (w_text W0)).2 r h2) r h' := by
  refine m_call_ex (tab := tX5_changeAll) (nL := 4) rfl rfl ?_
  refine m_E.run 1 (pc1 := 1) (ls1 := [some _, none, none, none]) (st1 := [_]) rfl ?_
  refine m_E.gf H0.o (by decide) rfl rfl ?_
  obtain ⟨_, h0, p0, rfl, Y, g0, okY, e1, e2, e3, c0⟩ := c_findFault (d := d) H0.tx ok0.2.2.2
  refine m_E.ov H0.tx.2.1 (by decide) rfl rfl rfl (p0) ?_
  have H := H0.setX c0 g0
  have ok := ok0.setX okY
  have f0 : Frm h h0 := c0.frm (by decide) (by decide)
  have hz : ∀ j, x_sg (w_text W0) j ≠ 0 → j < x_len (w_text W0) := fun j => x_sg_pos
  have okL := p_run_ok hz 60 0 [] (Nat.zero_le _) (fun r hr => by cases hr)
  rw [← e3] at okL
  refine m_E.run 3 (pc1 := 11) (ls1 := [some _, some _, none, none]) (st1 := [_, _]) rfl ?_
  rw [show p_run (x_sg (w_text W0)) (x_len (w_text W0)) 60 0 [] = x_run (w_text W0) from rfl] at *
  rcases er : x_run (w_text W0) with ⟨_ | m, L⟩
  · skip
    have eL : x_list Y = L := by rw [e3, er]
    subst eL
    have eM : (x_list Y).length = x_many Y := x_list_len Y
    refine m_E.ict (rfl) rfl ?_
    refine m_E.run 1 (pc1 := 20) (ls1 := [some _, some _, none, none]) (st1 := [_]) rfl ?_
    refine m_E.gf H.o (by decide) rfl rfl ?_
    refine m_E.ov H.tx.2.1 (by decide) rfl rfl rfl (c_leansAnother (d := d + 3) H.tx ok.2.2.2 (fun r hr => (okL r hr).2.1)) ?_
    change m_E _ _ _ _ (.int (m_bI ((x_list Y).any p_bad)) :: _) _ _
    cases ea : (x_list Y).any p_bad
    · skip
      have e : b_chg (w_now W0) (w_text W0) = (nI (x_list Y).length, some ((x_list Y).foldl g_do (w_now W0))) := by rw [b_chg, er]; dsimp only; rw [if_neg (by rw [ea]; decide)]
      rw [e]
      refine m_E.ift (rfl) rfl ?_
      refine m_E.run 1 (pc1 := 33) (ls1 := [some _, some _, none, none]) (st1 := [_]) rfl ?_
      refine m_E.gf H.o (by decide) rfl rfl ?_
      refine m_E.run 1 (pc1 := 37) (ls1 := [some _, some _, none, none]) (st1 := [_, _]) rfl ?_
      refine m_E.gf H.o (by decide) rfl rfl ?_
      obtain ⟨h1, p1, H1, f1, l1⟩ := c_rec (d := d) H ok
      have ok1 := ok.rec
      refine m_E.on H.hist.2.1 (by decide) rfl rfl rfl (p1) ?_
      refine m_E.run 1 (pc1 := 44) (ls1 := [some _, some _, none, none]) (st1 := [_]) rfl ?_
      refine m_E.gf H1.o (by decide) rfl rfl ?_
      refine m_E.gf H1.tx.2.1 (by decide) rfl rfl ?_
      refine m_E.run 3 (pc1 := 53) (ls1 := [some _, some _, some _, some _]) (st1 := []) rfl ?_
      change m_E _ _ _ [_, _, some (.int (nI (x_many Y))), _] _ _ _
      refine m_E.lp (fun i ls hh => ∃ v, ls = [some (.ref 4), some (.int v), some (.int (nI (x_many Y))), some (.int (nI i))] ∧ (Hcl hh n F (w_S (w_rec (w_X W0 Y)) (((x_list Y).take i).foldl g_do (w_now W0))) ∧ Okw n p (w_S (w_rec (w_X W0 Y)) (((x_list Y).take i).foldl g_do (w_now W0))) ∧ Frm h hh ∧ hh.length = h.length)) (x_many Y) ?_ ?_ ?_
      · skip
        rintro i _ hh hi ⟨v, rfl, hI⟩ K
        obtain ⟨Hi, oki, fi, li⟩ := hI
        obtain ⟨k1, k2, k3, k4, k5, k6, k7, k8, k9⟩ := id okY
        have hm := x_list_mem hi
        have hp := okL _ hm
        have hg := x_list_get hi
        refine m_E.run 2 (pc1 := 55) (ls1 := [some _, some _, some _, some _]) (st1 := [_, _]) rfl ?_
        refine m_E.icf ((m_leI (show x_many Y < 2 ^ 31 by omega) (by omega)).trans (decide_eq_false (by omega))) rfl ?_
        refine m_E.run 2 (pc1 := 60) (ls1 := [some _, some _, some _, some _]) (st1 := [_, _]) rfl ?_
        refine m_E.gf Hi.o (by decide) rfl rfl ?_
        refine m_E.run 1 (pc1 := 64) (ls1 := [some _, some _, some _, some _]) (st1 := [_, _, _]) rfl ?_
        refine m_E.ov Hi.tx.2.1 (by decide) rfl rfl rfl (c_kindOf (d := d + 4) Hi.tx oki.2.2.2 rfl (show i < 12 by omega)) ?_
        refine m_E.run 1 (pc1 := 68) (ls1 := [some _, some _, some _, some _]) (st1 := [_, _, _]) rfl ?_
        refine m_E.gf Hi.o (by decide) rfl rfl ?_
        refine m_E.gf Hi.tx.2.1 (by decide) rfl rfl ?_
        refine m_E.run 1 (pc1 := 75) (ls1 := [some _, some _, some _, some _]) (st1 := [_, _, _, _]) rfl ?_
        refine m_E.cv rfl rfl (c_at Hi.tx.2.2.2.2.1 rfl (by rw [List.length_map]; show i < (x_firsts Y).length; omega) (by rw [List.length_map]; show (x_firsts Y).length < 2 ^ 31; omega)) ?_
        rw [m_mapD]
        refine m_E.run 1 (pc1 := 79) (ls1 := [some _, some _, some _, some _]) (st1 := [_, _, _, _]) rfl ?_
        refine m_E.gf Hi.o (by decide) rfl rfl ?_
        refine m_E.gf Hi.tx.2.1 (by decide) rfl rfl ?_
        refine m_E.run 1 (pc1 := 86) (ls1 := [some _, some _, some _, some _]) (st1 := [_, _, _, _, _]) rfl ?_
        refine m_E.cv rfl rfl (c_at Hi.tx.2.2.2.2.2 rfl (show i < (x_seconds Y).length by omega) (show (x_seconds Y).length < 2 ^ 31 by omega)) ?_
        obtain ⟨_, h3, p3, rfl, H3, f3, l3⟩ := c_doChange (d := d + 1) Hi oki (rfl : nI ((x_kinds Y).getD i 0) = nI ((x_kinds Y).getD i 0)) (rfl : nI ((x_firsts Y).getD i 0) = nI ((x_firsts Y).getD i 0)) hp
        refine m_E.on Hi.o (by decide) rfl rfl rfl (p3) ?_
        refine m_E.run 2 (pc1 := 53) (ls1 := [some _, some _, some _, some _]) (st1 := []) rfl ?_
        rw [nI_add]
        have et : ((x_list Y).take (i + 1)).foldl g_do (w_now W0) = g_do (((x_list Y).take i).foldl g_do (w_now W0)) ((x_kinds Y).getD i 0, (x_firsts Y).getD i 0, (x_seconds Y).getD i 0) := by rw [List.take_add_one, hg, List.foldl_append]; rfl
        refine K _ _ ⟨_, rfl, ?_⟩
        rw [et]
        exact ⟨H3, oki.setS (oki.1.do hp), fi.tr f3, l3.trans li⟩
      · skip
        exact ⟨_, rfl, H1, ok1, f0.tr f1, l1.trans c0.1⟩
      · skip
        rintro _ hh ⟨v, rfl, hI⟩
        obtain ⟨Hi, oki, fi, li⟩ := hI
        rw [List.take_of_length_le (by omega)] at Hi oki
        refine m_E.run 2 (pc1 := 55) (ls1 := [some _, some _, some _, some _]) (st1 := [_, _]) rfl ?_
        refine m_E.ict (by exact decide_eq_true (Int32.le_refl _)) rfl ?_
        refine m_E.run 1 (pc1 := 99) (ls1 := [some _, some _, some _, some _]) (st1 := [_]) rfl ?_
        exact m_E.iret rfl ⟨Y, e1, e2, by rw [eM], Hi, oki, fi, li⟩
    · skip
      have e : b_chg (w_now W0) (w_text W0) = (-4, none) := by rw [b_chg, er]; dsimp only; rw [if_pos ea]
      rw [e]
      refine m_E.iff (rfl) rfl ?_
      refine m_E.run 1 (pc1 := 31) (ls1 := [some _, some _, none, none]) (st1 := [_]) rfl ?_
      exact m_E.iret rfl ⟨Y, e1, e2, rfl, H, ok, f0, c0.1⟩
  · skip
    have e : b_chg (w_now W0) (w_text W0) = (-100 - nI m, none) := by rw [b_chg, er]
    rw [e]
    have lm : m < 2 ^ 31 := by
      have q := p_run_le hz 60 0 [] (Nat.zero_le _) m (by rw [show p_run (x_sg (w_text W0)) (x_len (w_text W0)) 60 0 [] = x_run (w_text W0) from rfl, er])
      have := ok0.2.2.2.2.2.1; omega
    refine m_E.icf (m_n5 lm) rfl ?_
    refine m_E.run 3 (pc1 := 18) (ls1 := [some _, some _, none, none]) (st1 := [_]) rfl ?_
    dsimp only
    exact m_E.iret rfl ⟨Y, e1, e2, rfl, H, ok, f0, c0.1⟩
