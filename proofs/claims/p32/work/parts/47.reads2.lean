/-! pack, count, why, chances, ifPrinted, worstFlaw, bestWay -/
def c_shf (F : Nat → c_Sh) (S : c_St) : c_Sh := match c_fr S with
  | none => ([], [], [])
  | some k => g_sh F k
theorem Hcl.ps {h : m_Hp} {n : List Nat} {p : Nat} {F : Nat → c_Sh} {W : c_W} (H : Hcl h n F W) (ok : Okw n p W) : Hps h 11 12 (c_order (w_now W)) (c_fr (w_now W)) (c_dealt (w_now W)) (c_shf F (w_now W)) := by
  have hpk := H.now.pk ok.1.1
  refine ⟨hpk, fun k hk => ?_, ?_⟩
  · rw [c_shf, hk]
    exact (H.sheet (ok.1.2.2.1.2.2 k hk)).1
  · cases e : c_fr (w_now W) with
    | none => rw [c_shf, e]; intro x hx; cases hx
    | some k => rw [c_shf, e]; exact (H.sheet (ok.1.2.2.1.2.2 k e)).2.1.1
def q_can (F : Nat → c_Sh) (S : c_St) (i : Nat) : Nat := g_can (c_order S) (c_shf F S).2.1 (c_dealt S) (24 - c_dealt S) i
def q_gs (F : Nat → c_Sh) (S : c_St) (i : Nat) : Nat := g_gs (c_order S) (c_shf F S).2.1 (c_dealt S) i (24 - c_dealt S)
def r_pk (F : Nat → c_Sh) (S : c_St) (i : Nat) : Nat → Int32
  | 0 => nI ((c_order S).getD (c_dealt S + i) 0)
  | 1 => nI (g_mk (c_order S) (c_shf F S).2.1 (c_dealt S) i)
  | 2 => nI (q_can F S i)
  | 3 => nI (q_gs F S i)
  | 4 => if q_can F S i = 1 then nI 1 else nI 0
  | _ => -2
def r_pack (F : Nat → c_Sh) (S : c_St) (x y : Int32) : Int32 := if g_in (c_lf S) x = true then (if g_in 5 y = true then r_pk F S x.toNatClampNeg y.toNatClampNeg else -2) else -1
theorem m_out {n : Nat} {y : Int32} (hn : n < 100) (h : g_in n y = false) : y.toInt < 0 ∨ (n : Int) - 1 < y.toInt := m_sw4 hn (fun k hk e => by rw [e, g_in_yes hk (by omega)] at h; cases h)
theorem o_pack {d : Nat} {n : List Nat} {p : Nat} {F : Nat → c_Sh} {W : c_W} {x y : Int32} {h : m_Hp} (H : Hcl h n F W) (ok : Okw n p W) : m_Call m_P (d + 6) 55 [.ref 4, .int x, .int y] (h) (some (.int (r_pack F (w_now W) x y))) (h) := by
  refine m_call_of (tab := tX5_pack) (nL := 4) rfl rfl ?_
  have hpk := H.now.pk ok.1.1
  have hlf : c_lf (w_now W) ≤ 24 := g_left_le _ _
  refine m_E.run 1 (pc1 := 1) (ls1 := [some _, some _, some _, none]) (st1 := [_]) rfl ?_
  refine m_E.gf H.o (by decide) rfl rfl ?_
  refine m_E.gf H.now.2.1 (by decide) rfl rfl ?_
  refine m_E.run 2 (pc1 := 9) (ls1 := [some _, some _, some _, some _]) (st1 := [_]) rfl ?_
  have bad : g_in (c_lf (w_now W)) x = false → m_E (m_Call m_P (d + 5)) tX5_pack 20 [some (.ref 4), some (.int x), some (.int y), some (.ref 11)] [] h (fun r2 h2 => r2 = some (.int (r_pack F (w_now W) x y)) ∧ h2 = h) := by
    intro hb
    rw [r_pack, if_neg (by rw [hb]; decide)]
    refine m_E.run 1 (pc1 := 21) (ls1 := [some _, some _, some _, some _]) (st1 := [_]) rfl ?_
    exact m_E.iret rfl ⟨rfl, rfl⟩
  refine m_E.if2 rfl (fun q1 => ?_) (fun q1 => ?_)
  · skip
    exact bad (by rw [g_in, q1]; rfl)
  · skip
    refine m_E.run 2 (pc1 := 14) (ls1 := [some _, some _, some _, some _]) (st1 := [_, _]) rfl ?_
    refine m_E.ov hpk.2.1 hpk.1 rfl rfl rfl (c_left hpk) ?_
    change m_E _ _ _ _ (.int (nI (c_lf (w_now W))) :: _) _ _
    refine m_E.ic2 rfl (fun q2 => ?_) (fun q2 => ?_)
    · skip
      have ex : g_in (c_lf (w_now W)) x = true := by rw [g_in, q1]; have z := of_decide_eq_true q2; rw [decide_eq_false (fun z2 => absurd z (Int32.not_lt.mpr z2))]; rfl
      obtain ⟨i, hi, rfl⟩ := g_in_of ex (by omega)
      have ef : c_fr (w_now W) ≠ none := fun z => by rw [c_lf, z, g_left] at hi; exact absurd hi (Nat.not_lt_zero _)
      have hq := c_lf_eq ok.1 ef
      obtain ⟨k, ek⟩ : ∃ k, c_fr (w_now W) = some k := by cases e : c_fr (w_now W) with | none => exact absurd e ef | some k => exact ⟨k, rfl⟩
      obtain ⟨s1, s2, s3⟩ := H.sheet (ok.1.2.2.1.2.2 k ek)
      have es : c_shf F (w_now W) = g_sh F k := by rw [c_shf, ek]
      rw [← es] at s1 s2
      have hp2 := hpk
      rw [ek] at hp2
      rw [r_pack, if_pos ex, m_cl (by omega)]
      refine m_E.run 1 (pc1 := 23) (ls1 := [some _, some _, some _, some _]) (st1 := [_]) rfl ?_
      cases ey : g_in 5 y
      · skip
        rw [if_neg (by decide)]
        refine m_E.tsw (t := 95) (if_pos (m_out (by decide) ey)) rfl ?_
        refine m_E.run 1 (pc1 := 97) (ls1 := [some _, some _, some _, some _]) (st1 := [_]) rfl ?_
        exact m_E.iret rfl ⟨rfl, rfl⟩
      · skip
        rw [if_pos rfl]
        obtain ⟨w, hw, rfl⟩ := g_in_of ey (by decide)
        rw [m_cl (by omega)]
        have h5 : w = 0 ∨ w = 1 ∨ w = 2 ∨ w = 3 ∨ w = 4 := by omega
        rcases h5 with rfl | rfl | rfl | rfl | rfl
        · skip
          refine m_E.tsw (t := 56) (by decide) rfl ?_
          refine m_E.run 2 (pc1 := 58) (ls1 := [some _, some _, some _, some _]) (st1 := [_, _]) rfl ?_
          refine m_E.ov hp2.2.1 hp2.1 rfl rfl rfl (c_cardAt (d := d + 3) hp2 rfl (by omega)) ?_
          exact m_E.iret rfl ⟨rfl, rfl⟩
        · skip
          refine m_E.tsw (t := 62) (by decide) rfl ?_
          refine m_E.run 2 (pc1 := 64) (ls1 := [some _, some _, some _, some _]) (st1 := [_, _]) rfl ?_
          refine m_E.ov hp2.2.1 hp2.1 rfl rfl rfl (c_marksAt (d := d + 2) hp2 s1 rfl (by omega)) ?_
          exact m_E.iret rfl ⟨rfl, rfl⟩
        · skip
          refine m_E.tsw (t := 68) (by decide) rfl ?_
          refine m_E.run 2 (pc1 := 70) (ls1 := [some _, some _, some _, some _]) (st1 := [_, _]) rfl ?_
          refine m_E.ov hp2.2.1 hp2.1 rfl rfl rfl (c_canBe (d := d + 1) hp2 s1 s2.1 rfl (by omega)) ?_
          exact m_E.iret rfl ⟨rfl, rfl⟩
        · skip
          refine m_E.tsw (t := 74) (by decide) rfl ?_
          refine m_E.run 2 (pc1 := 76) (ls1 := [some _, some _, some _, some _]) (st1 := [_, _]) rfl ?_
          refine m_E.ov hp2.2.1 hp2.1 rfl rfl rfl (c_guess (d := d + 1) hp2 s1 s2.1 rfl (by omega)) ?_
          exact m_E.iret rfl ⟨rfl, rfl⟩
        · skip
          refine m_E.tsw (t := 80) (by decide) rfl ?_
          refine m_E.run 2 (pc1 := 82) (ls1 := [some _, some _, some _, some _]) (st1 := [_, _]) rfl ?_
          refine m_E.ov hp2.2.1 hp2.1 rfl rfl rfl (c_canBe (d := d + 1) hp2 s1 s2.1 rfl (by omega)) ?_
          change m_E _ _ _ _ (.int (nI (q_can F (w_now W) i)) :: _) _ _
          have lq : q_can F (w_now W) i ≤ 24 - c_dealt (w_now W) := g_can_lt
          change m_E _ _ _ _ _ _ (fun r2 h2 => r2 = some (.int (if q_can F (w_now W) i = 1 then nI 1 else nI 0)) ∧ h2 = h)
          refine m_E.run 1 (pc1 := 86) (ls1 := [some _, some _, some _, some _]) (st1 := [_, _]) rfl ?_
          by_cases e1 : q_can F (w_now W) i = 1
          · skip
            rw [if_pos e1]
            refine m_E.icf (by rw [e1]; rfl) rfl ?_
            refine m_E.run 2 (pc1 := 94) (ls1 := [some _, some _, some _, some _]) (st1 := [_]) rfl ?_
            exact m_E.iret rfl ⟨rfl, rfl⟩
          · skip
            rw [if_neg e1]
            refine m_E.ict ((m_neI (by omega) (by omega)).trans (decide_eq_true e1)) rfl ?_
            refine m_E.run 1 (pc1 := 94) (ls1 := [some _, some _, some _, some _]) (st1 := [_]) rfl ?_
            exact m_E.iret rfl ⟨rfl, rfl⟩
    · skip
      exact bad (by rw [g_in, decide_eq_true (Int32.not_lt.mp (of_decide_eq_false q2)), Bool.not_true, Bool.and_false])
def r_cnt (F : Nat → c_Sh) (W : c_W) : Nat → Int32
  | 0 => nI (c_piled (w_now W))
  | 1 => nI (c_printed (w_now W))
  | 2 => if c_fr (w_now W) = none then nI 0 else nI 1
  | 3 => nI (c_lf (w_now W))
  | 4 => nI (c_dealt (w_now W))
  | 5 => nI (g_cnt (fun j => q_can F (w_now W) j == 1) (c_lf (w_now W)))
  | 6 => nI (g_cnt (fun j => q_gs F (w_now W) j == (c_order (w_now W)).getD (c_dealt (w_now W) + j) 0) (c_lf (w_now W)))
  | 7 => c_sold (w_now W)
  | 8 => c_pulped (w_now W)
  | 9 => c_coins (w_now W)
  | 10 => nI (g_tot (fun c => g_pop ((c_backs (w_now W)).getD c 0)) 24)
  | 11 => nI (g_beyond (c_leans (w_now W)) (nI ((c_settings (w_now W)).getD 1 0)) (c_leans (w_now W)).length)
  | 12 => nI (w_size W)
  | 13 => nI (x_len (w_text W))
  | 14 => nI ((c_settings (w_now W)).getD 0 0)
  | 15 => nI ((c_settings (w_now W)).getD 1 0)
  | 16 => nI ((c_settings (w_now W)).getD 2 0)
  | 17 => nI ((c_settings (w_now W)).getD 3 0)
  | _ => -2
def r_count (F : Nat → c_Sh) (W : c_W) (y : Int32) : Int32 := if g_in 18 y = true then r_cnt F W y.toNatClampNeg else -2
theorem o_count {d : Nat} {n : List Nat} {p : Nat} {F : Nat → c_Sh} {W : c_W} {y : Int32} {h : m_Hp} (H : Hcl h n F W) (ok : Okw n p W) : m_Call m_P (d + 6) 56 [.ref 4, .int y] (h) (some (.int (r_count F W y))) (h) := by
  refine m_call_of (tab := tX5_count) (nL := 2) rfl rfl ?_
  have hpk := H.now.pk ok.1.1
  have hps := H.ps ok
  have ll := ok.1.1.2.2.1
  have ls := ok.1.1.2.2.2.2.2.1
  refine m_E.run 1 (pc1 := 1) (ls1 := [some _, some _]) (st1 := [_]) rfl ?_
  cases ey : g_in 18 y
  · skip
    rw [r_count, if_neg (by rw [ey]; decide)]
    refine m_E.tsw (t := 285) (if_pos (m_out (by decide) ey)) rfl ?_
    refine m_E.run 1 (pc1 := 287) (ls1 := [some _, some _]) (st1 := [_]) rfl ?_
    exact m_E.iret rfl ⟨rfl, rfl⟩
  · skip
    rw [r_count, if_pos ey]
    obtain ⟨w, hw, rfl⟩ := g_in_of ey (by decide)
    rw [m_cl (by omega)]
    have h5 : w = 0 ∨ w = 1 ∨ w = 2 ∨ w = 3 ∨ w = 4 ∨ w = 5 ∨ w = 6 ∨ w = 7 ∨ w = 8 ∨ w = 9 ∨ w = 10 ∨ w = 11 ∨ w = 12 ∨ w = 13 ∨ w = 14 ∨ w = 15 ∨ w = 16 ∨ w = 17 := by omega
    rcases h5 with rfl | rfl | rfl | rfl | rfl | rfl | rfl | rfl | rfl | rfl | rfl | rfl | rfl | rfl | rfl | rfl | rfl | rfl
    · skip
      refine m_E.tsw (t := 88) (by decide) rfl ?_
      refine m_E.run 1 (pc1 := 89) (ls1 := [some _, some _]) (st1 := [_]) rfl ?_
      refine m_E.gf H.o (by decide) rfl rfl ?_
      refine m_E.gf H.now.2.1 (by decide) rfl rfl ?_
      exact m_E.iret rfl ⟨rfl, rfl⟩
    · skip
      refine m_E.tsw (t := 96) (by decide) rfl ?_
      refine m_E.run 1 (pc1 := 97) (ls1 := [some _, some _]) (st1 := [_]) rfl ?_
      refine m_E.gf H.o (by decide) rfl rfl ?_
      refine m_E.gf H.now.2.1 (by decide) rfl rfl ?_
      exact m_E.iret rfl ⟨rfl, rfl⟩
    · skip
      refine m_E.tsw (t := 104) (by decide) rfl ?_
      refine m_E.run 1 (pc1 := 105) (ls1 := [some _, some _]) (st1 := [_]) rfl ?_
      refine m_E.gf H.o (by decide) rfl rfl ?_
      refine m_E.gf H.now.2.1 (by decide) rfl rfl ?_
      refine m_E.ov hpk.2.1 hpk.1 rfl rfl rfl (c_isThere (d := d + 4) hpk) ?_
      change m_E _ _ _ _ _ _ (fun r2 h2 => r2 = some (.int (if c_fr (w_now W) = none then nI 0 else nI 1)) ∧ h2 = h)
      rcases ef : c_fr (w_now W) with _ | k
      · skip
        refine m_E.ift (rfl) rfl ?_
        refine m_E.run 1 (pc1 := 122) (ls1 := [some _, some _]) (st1 := [_]) rfl ?_
        exact m_E.iret rfl ⟨rfl, rfl⟩
      · skip
        refine m_E.iff (rfl) rfl ?_
        refine m_E.run 2 (pc1 := 122) (ls1 := [some _, some _]) (st1 := [_]) rfl ?_
        exact m_E.iret rfl ⟨rfl, rfl⟩
    · skip
      refine m_E.tsw (t := 123) (by decide) rfl ?_
      refine m_E.run 1 (pc1 := 124) (ls1 := [some _, some _]) (st1 := [_]) rfl ?_
      refine m_E.gf H.o (by decide) rfl rfl ?_
      refine m_E.gf H.now.2.1 (by decide) rfl rfl ?_
      refine m_E.ov hpk.2.1 hpk.1 rfl rfl rfl (c_left (d := d + 4) hpk) ?_
      exact m_E.iret rfl ⟨rfl, rfl⟩
    · skip
      refine m_E.tsw (t := 134) (by decide) rfl ?_
      refine m_E.run 1 (pc1 := 135) (ls1 := [some _, some _]) (st1 := [_]) rfl ?_
      refine m_E.gf H.o (by decide) rfl rfl ?_
      refine m_E.gf H.now.2.1 (by decide) rfl rfl ?_
      refine m_E.gf hpk.2.1 hpk.1 rfl rfl ?_
      exact m_E.iret rfl ⟨rfl, rfl⟩
    · skip
      refine m_E.tsw (t := 145) (by decide) rfl ?_
      refine m_E.run 1 (pc1 := 146) (ls1 := [some _, some _]) (st1 := [_]) rfl ?_
      refine m_E.gf H.o (by decide) rfl rfl ?_
      refine m_E.gf H.now.2.1 (by decide) rfl rfl ?_
      refine m_E.ov hpk.2.1 hpk.1 rfl rfl rfl (c_known (d := d) hps) ?_
      exact m_E.iret rfl ⟨rfl, rfl⟩
    · skip
      refine m_E.tsw (t := 156) (by decide) rfl ?_
      refine m_E.run 1 (pc1 := 157) (ls1 := [some _, some _]) (st1 := [_]) rfl ?_
      refine m_E.gf H.o (by decide) rfl rfl ?_
      refine m_E.gf H.now.2.1 (by decide) rfl rfl ?_
      refine m_E.ov hpk.2.1 hpk.1 rfl rfl rfl (c_right (d := d) hps) ?_
      exact m_E.iret rfl ⟨rfl, rfl⟩
    · skip
      refine m_E.tsw (t := 167) (by decide) rfl ?_
      refine m_E.run 1 (pc1 := 168) (ls1 := [some _, some _]) (st1 := [_]) rfl ?_
      refine m_E.gf H.o (by decide) rfl rfl ?_
      refine m_E.gf H.now.2.1 (by decide) rfl rfl ?_
      exact m_E.iret rfl ⟨rfl, rfl⟩
    · skip
      refine m_E.tsw (t := 175) (by decide) rfl ?_
      refine m_E.run 1 (pc1 := 176) (ls1 := [some _, some _]) (st1 := [_]) rfl ?_
      refine m_E.gf H.o (by decide) rfl rfl ?_
      refine m_E.gf H.now.2.1 (by decide) rfl rfl ?_
      exact m_E.iret rfl ⟨rfl, rfl⟩
    · skip
      refine m_E.tsw (t := 183) (by decide) rfl ?_
      refine m_E.run 1 (pc1 := 184) (ls1 := [some _, some _]) (st1 := [_]) rfl ?_
      refine m_E.gf H.o (by decide) rfl rfl ?_
      refine m_E.gf H.now.2.1 (by decide) rfl rfl ?_
      exact m_E.iret rfl ⟨rfl, rfl⟩
    · skip
      refine m_E.tsw (t := 191) (by decide) rfl ?_
      refine m_E.run 1 (pc1 := 192) (ls1 := [some _, some _]) (st1 := [_]) rfl ?_
      refine m_E.gf H.o (by decide) rfl rfl ?_
      refine m_E.ov H.now.2.1 (by decide) rfl rfl rfl (c_marksOnBacks (d := d + 3) H.now ok.1.1) ?_
      exact m_E.iret rfl ⟨rfl, rfl⟩
    · skip
      refine m_E.tsw (t := 199) (by decide) rfl ?_
      refine m_E.run 1 (pc1 := 200) (ls1 := [some _, some _]) (st1 := [_]) rfl ?_
      refine m_E.gf H.o (by decide) rfl rfl ?_
      refine m_E.gf H.now.2.1 (by decide) rfl rfl ?_
      refine m_E.run 1 (pc1 := 207) (ls1 := [some _, some _]) (st1 := [_, _]) rfl ?_
      refine m_E.gf H.o (by decide) rfl rfl ?_
      refine m_E.gf H.now.2.1 (by decide) rfl rfl ?_
      refine m_E.run 1 (pc1 := 214) (ls1 := [some _, some _]) (st1 := [_, _, _]) rfl ?_
      refine m_E.cv rfl rfl (c_at H.now.2.2.2.2.2.1 rfl (by rw [List.length_map]; omega) (by rw [List.length_map]; omega)) ?_
      rw [m_mapD]
      refine m_E.cv rfl rfl (c_courtsBeyond H.now.2.2.2.1 (by omega)) ?_
      exact m_E.iret rfl ⟨rfl, rfl⟩
    · skip
      refine m_E.tsw (t := 221) (by decide) rfl ?_
      refine m_E.run 1 (pc1 := 222) (ls1 := [some _, some _]) (st1 := [_]) rfl ?_
      refine m_E.gf H.o (by decide) rfl rfl ?_
      refine m_E.gf H.hist.2.1 (by decide) rfl rfl ?_
      exact m_E.iret rfl ⟨rfl, rfl⟩
    · skip
      refine m_E.tsw (t := 229) (by decide) rfl ?_
      refine m_E.run 1 (pc1 := 230) (ls1 := [some _, some _]) (st1 := [_]) rfl ?_
      refine m_E.gf H.o (by decide) rfl rfl ?_
      refine m_E.gf H.tx.2.1 (by decide) rfl rfl ?_
      exact m_E.iret rfl ⟨rfl, rfl⟩
    · skip
      refine m_E.tsw (t := 237) (by decide) rfl ?_
      refine m_E.run 1 (pc1 := 238) (ls1 := [some _, some _]) (st1 := [_]) rfl ?_
      refine m_E.gf H.o (by decide) rfl rfl ?_
      refine m_E.gf H.now.2.1 (by decide) rfl rfl ?_
      refine m_E.run 1 (pc1 := 245) (ls1 := [some _, some _]) (st1 := [_, _]) rfl ?_
      refine m_E.cv rfl rfl (c_at H.now.2.2.2.2.2.1 rfl (by rw [List.length_map]; omega) (by rw [List.length_map]; omega)) ?_
      rw [m_mapD]
      exact m_E.iret rfl ⟨rfl, rfl⟩
    · skip
      refine m_E.tsw (t := 249) (by decide) rfl ?_
      refine m_E.run 1 (pc1 := 250) (ls1 := [some _, some _]) (st1 := [_]) rfl ?_
      refine m_E.gf H.o (by decide) rfl rfl ?_
      refine m_E.gf H.now.2.1 (by decide) rfl rfl ?_
      refine m_E.run 1 (pc1 := 257) (ls1 := [some _, some _]) (st1 := [_, _]) rfl ?_
      refine m_E.cv rfl rfl (c_at H.now.2.2.2.2.2.1 rfl (by rw [List.length_map]; omega) (by rw [List.length_map]; omega)) ?_
      rw [m_mapD]
      exact m_E.iret rfl ⟨rfl, rfl⟩
    · skip
      refine m_E.tsw (t := 261) (by decide) rfl ?_
      refine m_E.run 1 (pc1 := 262) (ls1 := [some _, some _]) (st1 := [_]) rfl ?_
      refine m_E.gf H.o (by decide) rfl rfl ?_
      refine m_E.gf H.now.2.1 (by decide) rfl rfl ?_
      refine m_E.run 1 (pc1 := 269) (ls1 := [some _, some _]) (st1 := [_, _]) rfl ?_
      refine m_E.cv rfl rfl (c_at H.now.2.2.2.2.2.1 rfl (by rw [List.length_map]; omega) (by rw [List.length_map]; omega)) ?_
      rw [m_mapD]
      exact m_E.iret rfl ⟨rfl, rfl⟩
    · skip
      refine m_E.tsw (t := 273) (by decide) rfl ?_
      refine m_E.run 1 (pc1 := 274) (ls1 := [some _, some _]) (st1 := [_]) rfl ?_
      refine m_E.gf H.o (by decide) rfl rfl ?_
      refine m_E.gf H.now.2.1 (by decide) rfl rfl ?_
      refine m_E.run 1 (pc1 := 281) (ls1 := [some _, some _]) (st1 := [_, _]) rfl ?_
      refine m_E.cv rfl rfl (c_at H.now.2.2.2.2.2.1 rfl (by rw [List.length_map]; omega) (by rw [List.length_map]; omega)) ?_
      rw [m_mapD]
      exact m_E.iret rfl ⟨rfl, rfl⟩
def r_why (F : Nat → c_Sh) (S : c_St) : Int32 := match c_fr S with
  | none => -4
  | some k => nI (g_reason S (g_sh F k))
theorem o_why {d : Nat} {n : List Nat} {p : Nat} {F : Nat → c_Sh} {W : c_W} {h : m_Hp} (H : Hcl h n F W) (ok : Okw n p W) : m_Call m_P (d + 7) 57 [.ref 4] (h) (some (.int (r_why F (w_now W)))) (h) := by
  refine m_call_of (tab := tX5_why) (nL := 1) rfl rfl ?_
  have hpk := H.now.pk ok.1.1
  refine m_E.run 1 (pc1 := 1) (ls1 := [some _]) (st1 := [_]) rfl ?_
  refine m_E.gf H.o (by decide) rfl rfl ?_
  refine m_E.gf H.now.2.1 (by decide) rfl rfl ?_
  refine m_E.ov hpk.2.1 hpk.1 rfl rfl rfl (c_isThere (d := d + 5) hpk) ?_
  rcases ef : c_fr (w_now W) with _ | k
  · skip
    rw [r_why, ef]
    refine m_E.ift (rfl) rfl ?_
    refine m_E.run 1 (pc1 := 25) (ls1 := [some _]) (st1 := [_]) rfl ?_
    exact m_E.iret rfl ⟨rfl, rfl⟩
  · skip
    obtain ⟨s1, s2, s3⟩ := H.sheet (ok.1.2.2.1.2.2 k ef)
    rw [r_why, ef]
    refine m_E.iff (rfl) rfl ?_
    refine m_E.run 1 (pc1 := 14) (ls1 := [some _]) (st1 := [_]) rfl ?_
    refine m_E.gf H.o (by decide) rfl rfl ?_
    refine m_E.ov H.now.2.1 (by decide) rfl rfl rfl (c_reason (d := d) H.now ok.1.1 ef s1 s2.1) ?_
    refine m_E.run 1 (pc1 := 25) (ls1 := [some _]) (st1 := [_]) rfl ?_
    exact m_E.iret rfl ⟨rfl, rfl⟩
def g_kn (S : c_St) (tu : Bool) (bare : Nat) : Nat := g_cnt (fun v => g_cnt (fun c => g_bk (c_backs S) tu bare c == v) 24 == 1) 16
theorem o_ifPrinted {d : Nat} {n : List Nat} {p : Nat} {F : Nat → c_Sh} {W : c_W} {x : Int32} {tu : Bool} {h : m_Hp} (H : Hcl h n F W) (ok : Okw n p W) (hx : x = m_bI tu) : m_Call m_P (d + 6) 59 [.ref 4, .int x] (h) (some (.int (nI (g_kn (w_now W) tu 24)))) (h) := by
  refine m_call_of (tab := tX5_ifPrinted) (nL := 2) rfl rfl ?_
  refine m_E.run 1 (pc1 := 1) (ls1 := [some _, some _]) (st1 := [_]) rfl ?_
  refine m_E.gf H.o (by decide) rfl rfl ?_
  refine m_E.run 2 (pc1 := 6) (ls1 := [some _, some _]) (st1 := [_, _, _]) rfl ?_
  refine m_E.ov H.now.2.1 (by decide) rfl rfl rfl (c_knownIf (d := d + 3) (bare := 24) H.now ok.1.1 hx (Or.inr ⟨rfl, rfl⟩)) ?_
  exact m_E.iret rfl ⟨rfl, rfl⟩
/-- the first of the least values of f upon 0 .. n, and that value -/
def g_wf (f : Nat → Nat) : Nat → Nat × Nat
  | 0 => (0, f 0)
  | n + 1 => if f (n + 1) < (g_wf f n).2 then (n + 1, f (n + 1)) else g_wf f n
theorem g_wf_lt {f : Nat → Nat} {b : Nat} (h : ∀ k, f k < b) : ∀ n, (g_wf f n).1 ≤ n ∧ (g_wf f n).2 < b
  | 0 => ⟨Nat.le_refl _, h 0⟩
  | n + 1 => by
    rw [g_wf]
    split
    · exact ⟨Nat.le_refl _, h _⟩
    · exact ⟨Nat.le_succ_of_le (g_wf_lt h n).1, (g_wf_lt h n).2⟩
def r_worst (S : c_St) (y : Int32) : Int32 := if y = nI 0 then nI (g_wf (g_kn S false) 23).1 else if y = nI 1 then nI (g_wf (g_kn S false) 23).2 else -2
