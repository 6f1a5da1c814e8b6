/-! mark, lean, set -/
def c_mark (S : c_St) (i m : Nat) (is : Bool) : c_St := c_setBacks S ((c_backs S).set i (g_mset ((c_backs S).getD i 0) m is))
theorem g_mset_lt {v m : Nat} (hv : v < 16) (hm : m < 4) (is : Bool) : g_mset v m is < 16 := by
  obtain ⟨_, _, q3, q4⟩ := g_clr_ok v hv m hm
  cases is
  · exact q4
  · exact q3
theorem Tok.mark {n : List Nat} {p i m : Nat} {is : Bool} {S : c_St} (t : Tok n p S) (hi : i < 24) (hm : m < 4) : Tok n p (c_mark S i m is) := by
  obtain ⟨k1, k2⟩ := t
  have l := k1.2.2.2.1
  exact ⟨k1.backs ((List.length_set ..).trans l) (g_mem_set k1.2.2.2.2.1 (g_mset_lt (g_getD_lt k1.2.2.2.2.1 (by omega)) hm is)), k2⟩
theorem Tok.lean {n : List Nat} {p i : Nat} {v : Int32} {S : c_St} (t : Tok n p S) : Tok n p (c_setLeans S ((c_leans S).set i v)) := by
  obtain ⟨k1, k2⟩ := t
  exact ⟨k1.leans ((List.length_set ..).trans k1.2.2.1), k2⟩
theorem Tok.set {n : List Nat} {p i v : Nat} {S : c_St} (t : Tok n p S) (hi : i < 4) (hv : v < 100) (h1 : i = 0 → 1 ≤ v) : Tok n p (c_setSettings S ((c_settings S).set i v)) := by
  obtain ⟨k1, k2, k3, k4, k5, k6, k7⟩ := t
  have l := k1.2.2.2.2.2.1
  refine ⟨k1.settings ((List.length_set ..).trans l) (g_mem_set k1.2.2.2.2.2.2.1 hv), k2, k3, k4, k5, k6, ?_⟩
  show 1 ≤ ((c_settings S).set i v).getD 0 0
  by_cases e : i = 0
  · rw [e, g_set_at (by omega)]; exact h1 e
  · rw [g_set_off e]; exact k7
def b_mark (S : c_St) (x y : Int32) (is : Bool) : Int32 × Option c_St := if g_in 24 x = true ∧ g_in 4 y = true then (if ((c_backs S).getD x.toNatClampNeg 0).testBit y.toNatClampNeg = is then (-5, none) else (nI (g_mset ((c_backs S).getD x.toNatClampNeg 0) y.toNatClampNeg is), some (c_mark S x.toNatClampNeg y.toNatClampNeg is))) else (-1, none)
theorem m_bI_ne : ∀ a b, (!(m_bI a == m_bI b)) = !decide (a = b) := by decide
theorem o_mark {d : Nat} {n : List Nat} {p : Nat} {F : Nat → c_Sh} {W : c_W} {x y z : Int32} {is : Bool} {h : m_Hp} (H : Hcl h n F W) (ok : Okw n p W) (hz : z = m_bI is) : ∃ r h', m_Call m_P (d + 6) 41 [.ref 4, .int x, .int y, .int z] (h) r h' ∧ (Opq n p F W h (b_mark (w_now W) x y is).1 (b_mark (w_now W) x y is).2) r h' := by
  refine m_call_ex (tab := tX5_mark) (nL := 4) rfl rfl ?_
  subst hz
  refine m_E.run 1 (pc1 := 1) (ls1 := [some _, some _, some _, some _]) (st1 := [_]) rfl ?_
  refine m_E.cv rfl rfl (c_isCell) ?_
  cases ex : g_in 24 x
  · skip
    have e : b_mark (w_now W) x y is = (-1, none) := by rw [b_mark, if_neg (by rw [ex]; simp)]
    rw [e]
    refine m_E.ift (rfl) rfl ?_
    refine m_E.run 1 (pc1 := 15) (ls1 := [some _, some _, some _, some _]) (st1 := [_]) rfl ?_
    exact m_E.iret rfl ⟨rfl, H, ok, Frm.rf, rfl⟩
  · skip
    refine m_E.iff (rfl) rfl ?_
    refine m_E.run 1 (pc1 := 8) (ls1 := [some _, some _, some _, some _]) (st1 := [_]) rfl ?_
    refine m_E.cv rfl rfl (c_isMark) ?_
    cases ey : g_in 4 y
    · skip
      have e : b_mark (w_now W) x y is = (-1, none) := by rw [b_mark, if_neg (by rw [ey]; simp)]
      rw [e]
      refine m_E.iff (rfl) rfl ?_
      refine m_E.run 1 (pc1 := 15) (ls1 := [some _, some _, some _, some _]) (st1 := [_]) rfl ?_
      exact m_E.iret rfl ⟨rfl, H, ok, Frm.rf, rfl⟩
    · skip
      obtain ⟨i, hi, rfl⟩ := g_in_of ex (by decide)
      obtain ⟨m, hm, rfl⟩ := g_in_of ey (by decide)
      refine m_E.ift (rfl) rfl ?_
      refine m_E.run 1 (pc1 := 17) (ls1 := [some _, some _, some _, some _]) (st1 := [_]) rfl ?_
      refine m_E.gf H.o (by decide) rfl rfl ?_
      refine m_E.run 2 (pc1 := 22) (ls1 := [some _, some _, some _, some _]) (st1 := [_, _, _]) rfl ?_
      refine m_E.ov H.now.2.1 (by decide) rfl rfl rfl (c_hasMark H.now ok.1.1 rfl hi rfl hm) ?_
      refine m_E.run 1 (pc1 := 26) (ls1 := [some _, some _, some _, some _]) (st1 := [_, _]) rfl ?_
      by_cases e : ((c_backs (w_now W)).getD i 0).testBit m = is
      · skip
        have e2 : b_mark (w_now W) (nI i) (nI m) is = (-5, none) := by rw [b_mark, if_pos ⟨ex, ey⟩, m_cl (by omega), m_cl (by omega), if_pos e]
        rw [e2]
        refine m_E.icf (by rw [m_bI_ne, decide_eq_true e]; rfl) rfl ?_
        refine m_E.run 1 (pc1 := 31) (ls1 := [some _, some _, some _, some _]) (st1 := [_]) rfl ?_
        exact m_E.iret rfl ⟨rfl, H, ok, Frm.rf, rfl⟩
      · skip
        have e2 : b_mark (w_now W) (nI i) (nI m) is = (nI (g_mset ((c_backs (w_now W)).getD i 0) m is), some (c_mark (w_now W) i m is)) := by rw [b_mark, if_pos ⟨ex, ey⟩, m_cl (by omega), m_cl (by omega), if_neg e]
        rw [e2]
        refine m_E.ict (by rw [m_bI_ne, decide_eq_false e]; rfl) rfl ?_
        refine m_E.run 1 (pc1 := 33) (ls1 := [some _, some _, some _, some _]) (st1 := [_]) rfl ?_
        refine m_E.gf H.o (by decide) rfl rfl ?_
        refine m_E.run 1 (pc1 := 37) (ls1 := [some _, some _, some _, some _]) (st1 := [_, _]) rfl ?_
        refine m_E.gf H.o (by decide) rfl rfl ?_
        obtain ⟨h1, p1, H1, f1, l1⟩ := c_rec (d := d) H ok
        have ok1 := ok.rec
        refine m_E.on H.hist.2.1 (by decide) rfl rfl rfl (p1) ?_
        refine m_E.run 1 (pc1 := 44) (ls1 := [some _, some _, some _, some _]) (st1 := [_]) rfl ?_
        refine m_E.gf H1.o (by decide) rfl rfl ?_
        refine m_E.run 3 (pc1 := 50) (ls1 := [some _, some _, some _, some _]) (st1 := [_, _, _, _]) rfl ?_
        have lb := ok.1.1.2.2.2.1
        refine m_E.on H1.now.2.1 (by decide) rfl rfl rfl (c_setMark (is := is) H1.now ok1.1.1 rfl hi rfl hm rfl) ?_
        refine m_E.mv (P := fun h2 => Hst h2 5 (c_mark (w_now W) i m is) ∧ Chg 5 13 h1 h2) ⟨H1.now.s3 _, Chg.set (by omega) (by omega)⟩ (fun h2 q2 => ?_)
        have H2 := H1.setS q2.2 q2.1
        refine m_E.run 1 (pc1 := 54) (ls1 := [some _, some _, some _, some _]) (st1 := [_]) rfl ?_
        refine m_E.gf H2.o (by decide) rfl rfl ?_
        refine m_E.gf H2.now.2.1 (by decide) rfl rfl ?_
        refine m_E.run 1 (pc1 := 61) (ls1 := [some _, some _, some _, some _]) (st1 := [_, _]) rfl ?_
        have lb2 : (c_backs (w_now (w_S (w_rec W) (c_mark (w_now W) i m is)))).length = 24 := (List.length_set ..).trans lb
        refine m_E.cv rfl rfl (c_at H2.now.2.2.2.2.1 rfl (by rw [List.length_map]; omega) (by rw [List.length_map]; omega)) ?_
        have ev2 : ((c_backs (w_now (w_S (w_rec W) (c_mark (w_now W) i m is)))).map nI).getD i 0 = nI (g_mset ((c_backs (w_now W)).getD i 0) m is) := by rw [m_mapD]; show nI (((c_backs (w_now W)).set i _).getD i 0) = _; rw [g_set_at (by omega)]
        rw [ev2]
        exact m_E.iret rfl ⟨rfl, H2, ok1.setS (ok.1.mark hi hm), f1.tr (q2.2.frm (by decide) (by decide)), q2.2.1.trans l1⟩
def b_lean (S : c_St) (x y : Int32) : Int32 × Option c_St := if g_in 24 x = true then (if y < -9 ∨ ¬ y ≤ nI 9 then (-2, none) else if 3 ≤ x.toNatClampNeg % 6 then (if (c_leans S).getD x.toNatClampNeg 0 = y then (-5, none) else ((c_leans S).getD x.toNatClampNeg 0 + nI 100, some (c_setLeans S ((c_leans S).set x.toNatClampNeg y)))) else (-4, none)) else (-1, none)
theorem o_lean {d : Nat} {n : List Nat} {p : Nat} {F : Nat → c_Sh} {W : c_W} {x y : Int32} {h : m_Hp} (H : Hcl h n F W) (ok : Okw n p W) : ∃ r h', m_Call m_P (d + 6) 42 [.ref 4, .int x, .int y] (h) r h' ∧ (Opq n p F W h (b_lean (w_now W) x y).1 (b_lean (w_now W) x y).2) r h' := by
  refine m_call_ex (tab := tX5_lean) (nL := 4) rfl rfl ?_
  have ll := ok.1.1.2.2.1
  refine m_E.run 1 (pc1 := 1) (ls1 := [some _, some _, some _, none]) (st1 := [_]) rfl ?_
  refine m_E.cv rfl rfl (c_isCard) ?_
  cases ex : g_in 24 x
  · skip
    have e : b_lean (w_now W) x y = (-1, none) := by rw [b_lean, if_neg (by rw [ex]; simp)]
    rw [e]
    refine m_E.iff (rfl) rfl ?_
    refine m_E.run 1 (pc1 := 8) (ls1 := [some _, some _, some _, none]) (st1 := [_]) rfl ?_
    exact m_E.iret rfl ⟨rfl, H, ok, Frm.rf, rfl⟩
  · skip
    obtain ⟨i, hi, rfl⟩ := g_in_of ex (by decide)
    refine m_E.ift (rfl) rfl ?_
    refine m_E.run 2 (pc1 := 12) (ls1 := [some _, some _, some _, none]) (st1 := [_, _]) rfl ?_
    have bad : (y < -9 ∨ ¬ y ≤ nI 9) → m_E (m_Call m_P (d + 5)) tX5_lean 21 [some (.ref 4), some (.int (nI i)), some (.int y), none] [] h (Opq n p F W h (b_lean (w_now W) (nI i) y).1 (b_lean (w_now W) (nI i) y).2) := by
      intro hb
      have e : b_lean (w_now W) (nI i) y = (-2, none) := by rw [b_lean, if_pos ex, if_pos hb]
      rw [e]
      refine m_E.run 1 (pc1 := 23) (ls1 := [some _, some _, some _, none]) (st1 := [_]) rfl ?_
      exact m_E.iret rfl ⟨rfl, H, ok, Frm.rf, rfl⟩
    refine m_E.ic2 rfl (fun q1 => ?_) (fun q1 => ?_)
    · skip
      exact bad (Or.inl (of_decide_eq_true q1))
    · skip
      refine m_E.run 2 (pc1 := 18) (ls1 := [some _, some _, some _, none]) (st1 := [_, _]) rfl ?_
      refine m_E.ic2 rfl (fun q2 => ?_) (fun q2 => ?_)
      · skip
        have hb : ¬ (y < -9 ∨ ¬ y ≤ nI 9) := fun z => by rcases z with z | z; exact of_decide_eq_false q1 z; exact z (of_decide_eq_true q2)
        refine m_E.run 1 (pc1 := 25) (ls1 := [some _, some _, some _, none]) (st1 := [_]) rfl ?_
        refine m_E.cv rfl rfl (c_isCourt rfl hi) ?_
        by_cases ec : 3 ≤ i % 6
        · skip
          rw [decide_eq_true ec]
          refine m_E.ift (rfl) rfl ?_
          refine m_E.run 1 (pc1 := 35) (ls1 := [some _, some _, some _, none]) (st1 := [_]) rfl ?_
          refine m_E.gf H.o (by decide) rfl rfl ?_
          refine m_E.gf H.now.2.1 (by decide) rfl rfl ?_
          refine m_E.run 1 (pc1 := 42) (ls1 := [some _, some _, some _, none]) (st1 := [_, _]) rfl ?_
          refine m_E.cv rfl rfl (c_at H.now.2.2.2.1 rfl (by omega) (by omega)) ?_
          refine m_E.run 3 (pc1 := 48) (ls1 := [some _, some _, some _, some _]) (st1 := [_, _]) rfl ?_
          by_cases ey : (c_leans (w_now W)).getD i 0 = y
          · skip
            have e2 : b_lean (w_now W) (nI i) y = (-5, none) := by rw [b_lean, if_pos ex, if_neg hb, m_cl (by omega), if_pos ec, if_pos ey]
            rw [e2]
            refine m_E.icf (by rw [ey]; simp) rfl ?_
            refine m_E.run 1 (pc1 := 53) (ls1 := [some _, some _, some _, some _]) (st1 := [_]) rfl ?_
            exact m_E.iret rfl ⟨rfl, H, ok, Frm.rf, rfl⟩
          · skip
            have e2 : b_lean (w_now W) (nI i) y = ((c_leans (w_now W)).getD i 0 + nI 100, some (c_setLeans (w_now W) ((c_leans (w_now W)).set i y))) := by rw [b_lean, if_pos ex, if_neg hb, m_cl (by omega), if_pos ec, if_neg ey]
            rw [e2]
            refine m_E.ict (by rw [Bool.not_eq_true', beq_eq_false_iff_ne]; exact ey) rfl ?_
            refine m_E.run 1 (pc1 := 55) (ls1 := [some _, some _, some _, some _]) (st1 := [_]) rfl ?_
            refine m_E.gf H.o (by decide) rfl rfl ?_
            refine m_E.run 1 (pc1 := 59) (ls1 := [some _, some _, some _, some _]) (st1 := [_, _]) rfl ?_
            refine m_E.gf H.o (by decide) rfl rfl ?_
            obtain ⟨h1, p1, H1, f1, l1⟩ := c_rec (d := d) H ok
            have ok1 := ok.rec
            refine m_E.on H.hist.2.1 (by decide) rfl rfl rfl (p1) ?_
            refine m_E.run 1 (pc1 := 66) (ls1 := [some _, some _, some _, some _]) (st1 := [_]) rfl ?_
            refine m_E.gf H1.o (by decide) rfl rfl ?_
            refine m_E.gf H1.now.2.1 (by decide) rfl rfl ?_
            refine m_E.run 2 (pc1 := 74) (ls1 := [some _, some _, some _, some _]) (st1 := [_, _, _]) rfl ?_
            refine m_E.cn rfl rfl (c_put H1.now.2.2.2.1 (by decide) rfl (show i < (c_leans (w_now W)).length by omega) (show (c_leans (w_now W)).length < 2 ^ 31 by omega)) ?_
            refine m_E.mv (P := fun h2 => Hst h2 5 (c_setLeans (w_now W) ((c_leans (w_now W)).set i y)) ∧ Chg 5 13 h1 h2) ⟨H1.now.s2 _, Chg.set (by omega) (by omega)⟩ (fun h2 q2 => ?_)
            have H2 := H1.setS q2.2 q2.1
            refine m_E.run 3 (pc1 := 81) (ls1 := [some _, some _, some _, some _]) (st1 := [_]) rfl ?_
            dsimp only
            exact m_E.iret rfl ⟨rfl, H2, ok1.setS ok.1.lean, f1.tr (q2.2.frm (by decide) (by decide)), q2.2.1.trans l1⟩
        · skip
          rw [decide_eq_false ec]
          have e2 : b_lean (w_now W) (nI i) y = (-4, none) := by rw [b_lean, if_pos ex, if_neg hb, m_cl (by omega), if_neg ec]
          rw [e2]
          refine m_E.iff (rfl) rfl ?_
          refine m_E.run 1 (pc1 := 33) (ls1 := [some _, some _, some _, none]) (st1 := [_]) rfl ?_
          exact m_E.iret rfl ⟨rfl, H, ok, Frm.rf, rfl⟩
      · skip
        exact bad (Or.inr (of_decide_eq_false q2))
theorem m_rng {y : Int32} {l m : Nat} (hm : m < 100) (h1 : ¬ y < nI l) (h2 : y ≤ nI m) (hl : l < 100) : ∃ v, y = nI v ∧ l ≤ v ∧ v ≤ m := by
  rw [Int32.lt_iff_toInt_lt, nI_toInt (by omega)] at h1
  rw [Int32.le_iff_toInt_le, nI_toInt (by omega)] at h2
  refine ⟨y.toInt.toNat, ?_, by omega, by omega⟩
  apply Int32.toInt_inj.mp
  rw [nI_toInt (by omega)]; omega
def b_least (i : Nat) : Nat := [1, 0, 0, 1].getD i 0
def b_most (i : Nat) : Nat := [99, 9, 24, 99].getD i 0
theorem b_bounds : ∀ i, i < 4 → b_least i < 100 ∧ b_most i < 100 ∧ [nI 1, nI 0, nI 0, nI 1].getD i 0 = nI (b_least i) ∧ [nI 99, nI 9, nI 24, nI 99].getD i 0 = nI (b_most i) ∧ (i = 0 → b_least i = 1) := by decide
def b_set (S : c_St) (x y : Int32) : Int32 × Option c_St := if g_in 4 x = true ∧ ¬ y < nI (b_least x.toNatClampNeg) ∧ y ≤ nI (b_most x.toNatClampNeg) then (if nI ((c_settings S).getD x.toNatClampNeg 0) = y then (-5, none) else (nI ((c_settings S).getD x.toNatClampNeg 0), some (c_setSettings S ((c_settings S).set x.toNatClampNeg y.toNatClampNeg)))) else (-2, none)
theorem o_set {d : Nat} {n : List Nat} {p : Nat} {F : Nat → c_Sh} {W : c_W} {x y : Int32} {h : m_Hp} (H : Hcl h n F W) (ok : Okw n p W) : ∃ r h', m_Call m_P (d + 6) 43 [.ref 4, .int x, .int y] (h) r h' ∧ (Opq n p F W h (b_set (w_now W) x y).1 (b_set (w_now W) x y).2) r h' := by
  refine m_call_ex (tab := tX5_set) (nL := 4) rfl rfl ?_
  have ls := ok.1.1.2.2.2.2.2.1
  have ms := ok.1.1.2.2.2.2.2.2.1
  have out : g_in 4 x = false → b_set (w_now W) x y = (-2, none) := fun z => by rw [b_set, if_neg (by rw [z]; simp)]
  refine m_E.run 1 (pc1 := 1) (ls1 := [some _, some _, some _, none]) (st1 := [_]) rfl ?_
  refine m_E.if2 rfl (fun q1 => ?_) (fun q1 => ?_)
  · skip
    rw [out (by rw [g_in, q1]; rfl)]
    refine m_E.run 1 (pc1 := 11) (ls1 := [some _, some _, some _, none]) (st1 := [_]) rfl ?_
    exact m_E.iret rfl ⟨rfl, H, ok, Frm.rf, rfl⟩
  · skip
    refine m_E.run 2 (pc1 := 6) (ls1 := [some _, some _, some _, none]) (st1 := [_, _]) rfl ?_
    refine m_E.ic2 rfl (fun q2 => ?_) (fun q2 => ?_)
    · skip
      have ex : g_in 4 x = true := by rw [g_in, q1]; have z := of_decide_eq_true q2; rw [decide_eq_false (fun z2 => absurd z (Int32.not_lt.mpr z2))]; rfl
      obtain ⟨i, hi, rfl⟩ := g_in_of ex (by decide)
      obtain ⟨b1, b2, b3, b4, b5⟩ := b_bounds i hi
      have lv : (c_settings (w_now W)).getD i 0 < 100 := g_getD_lt ms (by omega)
      have bad : ¬ (¬ y < nI (b_least i) ∧ y ≤ nI (b_most i)) → m_E (m_Call m_P (d + 5)) tX5_set 34 [some (.ref 4), some (.int (nI i)), some (.int y), none] [] h (Opq n p F W h (b_set (w_now W) (nI i) y).1 (b_set (w_now W) (nI i) y).2) := by
        intro hb
        have e : b_set (w_now W) (nI i) y = (-2, none) := by rw [b_set, m_cl (by omega), if_neg (fun z => hb z.2)]
        rw [e]
        refine m_E.run 1 (pc1 := 36) (ls1 := [some _, some _, some _, none]) (st1 := [_]) rfl ?_
        exact m_E.iret rfl ⟨rfl, H, ok, Frm.rf, rfl⟩
      refine m_E.run 3 (pc1 := 17) (ls1 := [some _, some _, some _, none]) (st1 := [_, _, _]) rfl ?_
      refine m_E.cv rfl rfl (c_at H.1.2.1 rfl hi (Nat.le_of_ble_eq_true rfl)) ?_
      rw [b3]
      refine m_E.ic2 rfl (fun q3 => ?_) (fun q3 => ?_)
      · skip
        exact bad (fun z => z.1 (of_decide_eq_true q3))
      · skip
        refine m_E.run 3 (pc1 := 28) (ls1 := [some _, some _, some _, none]) (st1 := [_, _, _]) rfl ?_
        refine m_E.cv rfl rfl (c_at H.1.2.2 rfl hi (Nat.le_of_ble_eq_true rfl)) ?_
        rw [b4]
        refine m_E.ic2 rfl (fun q4 => ?_) (fun q4 => ?_)
        · skip
          have hc : ¬ y < nI (b_least i) ∧ y ≤ nI (b_most i) := ⟨of_decide_eq_false q3, of_decide_eq_true q4⟩
          obtain ⟨v, rfl, v1, v2⟩ := m_rng b2 hc.1 hc.2 b1
          refine m_E.run 1 (pc1 := 38) (ls1 := [some _, some _, some _, none]) (st1 := [_]) rfl ?_
          refine m_E.gf H.o (by decide) rfl rfl ?_
          refine m_E.gf H.now.2.1 (by decide) rfl rfl ?_
          refine m_E.run 1 (pc1 := 45) (ls1 := [some _, some _, some _, none]) (st1 := [_, _]) rfl ?_
          refine m_E.cv rfl rfl (c_at H.now.2.2.2.2.2.1 rfl (by rw [List.length_map]; omega) (by rw [List.length_map]; omega)) ?_
          rw [m_mapD]
          refine m_E.run 3 (pc1 := 51) (ls1 := [some _, some _, some _, some _]) (st1 := [_, _]) rfl ?_
          by_cases ey : (c_settings (w_now W)).getD i 0 = v
          · skip
            have e2 : b_set (w_now W) (nI i) (nI v) = (-5, none) := by rw [b_set, m_cl (by omega), if_pos ⟨ex, hc⟩, if_pos (by rw [ey])]
            rw [e2]
            refine m_E.icf (by rw [ey]; exact (m_neI (by omega) (by omega)).trans (decide_eq_false (fun z => z rfl))) rfl ?_
            refine m_E.run 1 (pc1 := 56) (ls1 := [some _, some _, some _, some _]) (st1 := [_]) rfl ?_
            exact m_E.iret rfl ⟨rfl, H, ok, Frm.rf, rfl⟩
          · skip
            have e2 : b_set (w_now W) (nI i) (nI v) = (nI ((c_settings (w_now W)).getD i 0), some (c_setSettings (w_now W) ((c_settings (w_now W)).set i v))) := by rw [b_set, m_cl (by omega), m_cl (by omega), if_pos ⟨ex, hc⟩, if_neg (fun z => ey (m_inj (by omega) (by omega) z))]
            rw [e2]
            refine m_E.ict ((m_neI (by omega) (by omega)).trans (decide_eq_true ey)) rfl ?_
            refine m_E.run 1 (pc1 := 58) (ls1 := [some _, some _, some _, some _]) (st1 := [_]) rfl ?_
            refine m_E.gf H.o (by decide) rfl rfl ?_
            refine m_E.run 1 (pc1 := 62) (ls1 := [some _, some _, some _, some _]) (st1 := [_, _]) rfl ?_
            refine m_E.gf H.o (by decide) rfl rfl ?_
            obtain ⟨h1, p1, H1, f1, l1⟩ := c_rec (d := d) H ok
            have ok1 := ok.rec
            refine m_E.on H.hist.2.1 (by decide) rfl rfl rfl (p1) ?_
            refine m_E.run 1 (pc1 := 69) (ls1 := [some _, some _, some _, some _]) (st1 := [_]) rfl ?_
            refine m_E.gf H1.o (by decide) rfl rfl ?_
            refine m_E.gf H1.now.2.1 (by decide) rfl rfl ?_
            refine m_E.run 2 (pc1 := 77) (ls1 := [some _, some _, some _, some _]) (st1 := [_, _, _]) rfl ?_
            refine m_E.cn rfl rfl (c_put H1.now.2.2.2.2.2.1 (by decide) rfl (by rw [List.length_map]; show i < (c_settings (w_now W)).length; omega) (by rw [List.length_map]; show (c_settings (w_now W)).length < 2 ^ 31; omega)) ?_
            rw [m_map_set]
            refine m_E.mv (P := fun h2 => Hst h2 5 (c_setSettings (w_now W) ((c_settings (w_now W)).set i v)) ∧ Chg 5 13 h1 h2) ⟨H1.now.s4 _, Chg.set (by omega) (by omega)⟩ (fun h2 q2 => ?_)
            have H2 := H1.setS q2.2 q2.1
            refine m_E.run 1 (pc1 := 81) (ls1 := [some _, some _, some _, some _]) (st1 := [_]) rfl ?_
            exact m_E.iret rfl ⟨rfl, H2, ok1.setS (ok.1.set hi (by omega) (fun z => by have := b5 z; omega)), f1.tr (q2.2.frm (by decide) (by decide)), q2.2.1.trans l1⟩
        · skip
          exact bad (fun z => of_decide_eq_false q4 z.2)
    · skip
      rw [out (by rw [g_in, decide_eq_true (Int32.not_lt.mp (of_decide_eq_false q2)), Bool.not_true, Bool.and_false])]
      refine m_E.run 1 (pc1 := 11) (ls1 := [some _, some _, some _, none]) (st1 := [_]) rfl ?_
      exact m_E.iret rfl ⟨rfl, H, ok, Frm.rf, rfl⟩
