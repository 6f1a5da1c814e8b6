/-! shuffles until all is back -/
theorem g_rnd_bounds {place top cards : Nat} (hc : 0 < cards) : ∀ fuel t w, 0 < t → t + fuel ≤ cards → 0 < g_rnd place top cards fuel t w ∧ g_rnd place top cards fuel t w ≤ cards
  | 0, t, w, h1, h2 => ⟨hc, Nat.le_refl _⟩
  | fuel + 1, t, w, h1, h2 => by
    rw [g_rnd]
    split
    · exact ⟨h1, by omega⟩
    · exact g_rnd_bounds hc fuel (t + 1) _ (by omega) (by omega)
theorem g_round_bounds {place top cards : Nat} (hc : 0 < cards) : 0 < g_round place top cards ∧ g_round place top cards ≤ cards := g_rnd_bounds hc _ _ _ (by decide) (by omega)
theorem g_lcf_ge {a b : Nat} (hb : 0 < b) : ∀ fuel f, 0 < f → a ≤ g_lcf a b fuel f
  | 0, f, h => Nat.le_mul_of_pos_right a hb
  | fuel + 1, f, h => by
    rw [g_lcf]
    split
    · exact Nat.le_mul_of_pos_right a h
    · exact g_lcf_ge hb fuel (f + 1) (by omega)
theorem g_until_mono {top cards : Nat} (hc : 0 < cards) (n : Nat) : ∀ m, g_until top cards n ≤ g_until top cards (n + m)
  | 0 => Nat.le_refl _
  | m + 1 => Nat.le_trans (g_until_mono hc n m) (g_lcf_ge (g_round_bounds hc).1 _ _ (by decide))
def g_tst : Bool := (List.range 25).all fun cards => (List.range cards).all fun top => Nat.blt (g_until top cards cards) 10000
theorem g_tst_ok : g_tst = true := by decide +kernel
theorem g_until_lt {top cards n : Nat} (hc : cards < 25) (ht : top < cards) (hn : n ≤ cards) : g_until top cards n < 10000 := by
  have t := g_tst_ok
  rw [g_tst, List.all_eq_true] at t
  have t2 := t cards (List.mem_range.mpr hc)
  rw [List.all_eq_true] at t2
  have t3 := t2 top (List.mem_range.mpr ht)
  rw [Nat.blt_eq] at t3
  have m := g_until_mono (top := top) (show 0 < cards by omega) n (cards - n)
  rw [show n + (cards - n) = cards by omega] at m
  omega
theorem c_until {d : Nat} {top cards : Nat} {x y : Int32} {h : m_Hp} (hx : x = nI top) (hy : y = nI cards) (hc : cards < 25) (ht : top < cards) : m_Call m_P (d + 3) 92 [.int x, .int y] (h) (some (.int (nI (g_until top cards cards)))) (h) := by
  refine m_call_of (tab := tX5_shufflesUntilBack) (nL := 4) rfl rfl ?_
  subst hx hy
  refine m_E.run 4 (pc1 := 4) (ls1 := [some _, some _, some _, some _]) (st1 := []) rfl ?_
  refine m_E.up (fun i => (4, [some (.int (nI top)), some (.int (nI cards)), some (.int (nI (g_until top cards i))), some (.int (nI i))], [], h)) cards (fun i => True) (fun i hi hI K => ?_) ?_ (fun hI => ?_)
  · skip
    show m_E _ _ 4 [some (.int (nI top)), some (.int (nI cards)), some (.int (nI (g_until top cards i))), some (.int (nI i))] [] (h) _
    obtain ⟨b1, b2⟩ := g_round_bounds (place := i) (top := top) (show 0 < cards by omega)
    have b3 := g_until_lt hc ht (Nat.le_of_lt hi)
    refine m_E.run 2 (pc1 := 6) (ls1 := [some _, some _, some _, some _]) (st1 := [_, _]) rfl ?_
    refine m_E.icf ((m_leI (by omega) (by omega)).trans (decide_eq_false (by omega))) rfl ?_
    refine m_E.run 4 (pc1 := 13) (ls1 := [some _, some _, some _, some _]) (st1 := [_, _, _, _]) rfl ?_
    refine m_E.cv rfl rfl (c_roundOf rfl rfl rfl hi (by omega) (by omega)) ?_
    refine m_E.cv rfl rfl (c_lcm rfl rfl b1 (by omega) b3) ?_
    refine m_E.run 3 (pc1 := 4) (ls1 := [some _, some _, some _, some _]) (st1 := []) rfl ?_
    rw [nI_add]
    exact K trivial
  · skip
    trivial
  · skip
    show m_E _ _ 4 ((fun i => [some (.int (nI top)), some (.int (nI cards)), some (.int (nI (g_until top cards i))), some (.int (nI i))]) (cards)) [] ((fun i => h) (cards)) _
    dsimp only
    refine m_E.run 2 (pc1 := 6) (ls1 := [some _, some _, some _, some _]) (st1 := [_, _]) rfl ?_
    refine m_E.ict (by exact decide_eq_true (Int32.le_refl _)) rfl ?_
    refine m_E.run 1 (pc1 := 27) (ls1 := [some _, some _, some _, some _]) (st1 := [_]) rfl ?_
    exact m_E.iret rfl ⟨rfl, rfl⟩
def r_back (S : c_St) (x : Int32) : Int32 := if c_fr S = none then -4 else if x < nI 1 ∨ nI (c_lf S) ≤ x then -2 else if g_until x.toNatClampNeg (c_lf S) (c_lf S) ≤ 500 then nI (g_until x.toNatClampNeg (c_lf S) (c_lf S)) else -5
theorem o_backIn {d : Nat} {n p : Nat} {F : Nat → c_Sh} {W : c_W} {x : Int32} {h : m_Hp} (H : Hcl h n F W) (ok : Okw n p W) : m_Call m_P (d + 6) 79 [.ref 4, .int x] (h) (some (.int (r_back (w_now W) x))) (h) := by
  refine m_call_of (tab := tX5_backIn) (nL := 4) rfl rfl ?_
  have hpk := H.now.pk ok.1.1
  have hlf : c_lf (w_now W) ≤ 24 := g_left_le _ _
  refine m_E.run 1 (pc1 := 1) (ls1 := [some _, some _, none, none]) (st1 := [_]) rfl ?_
  refine m_E.gf H.o (by decide) rfl rfl ?_
  refine m_E.gf H.now.2.1 (by decide) rfl rfl ?_
  refine m_E.run 2 (pc1 := 9) (ls1 := [some _, some _, some _, none]) (st1 := [_]) rfl ?_
  refine m_E.ov hpk.2.1 hpk.1 rfl rfl rfl (c_isThere hpk) ?_
  by_cases ef : c_fr (w_now W) = none
  · skip
    rw [r_back, if_pos ef, ef]
    refine m_E.iff (rfl) rfl ?_
    refine m_E.run 1 (pc1 := 17) (ls1 := [some _, some _, some _, none]) (st1 := [_]) rfl ?_
    exact m_E.iret rfl ⟨rfl, rfl⟩
  · skip
    have ei : (c_fr (w_now W)).isSome = true := by cases e : c_fr (w_now W) with | none => exact absurd e ef | some k => rfl
    rw [ei]
    refine m_E.ift (rfl) rfl ?_
    refine m_E.run 2 (pc1 := 20) (ls1 := [some _, some _, some _, none]) (st1 := [_, _]) rfl ?_
    refine m_E.ov hpk.2.1 hpk.1 rfl rfl rfl (c_hasParts hpk) ?_
    change m_E _ _ _ _ (.int (m_bI (!decide (x < nI 1) && !decide (nI (c_lf (w_now W)) ≤ x))) :: _) _ _
    by_cases ex : x < nI 1 ∨ nI (c_lf (w_now W)) ≤ x
    · skip
      have eb : (!decide (x < nI 1) && !decide (nI (c_lf (w_now W)) ≤ x)) = false := by rcases ex with z | z <;> simp [z]
      rw [r_back, if_neg ef, if_pos ex, eb]
      refine m_E.iff (rfl) rfl ?_
      refine m_E.run 1 (pc1 := 28) (ls1 := [some _, some _, some _, none]) (st1 := [_]) rfl ?_
      exact m_E.iret rfl ⟨rfl, rfl⟩
    · skip
      obtain ⟨top, rfl, t1, t2⟩ := m_rng2 (show c_lf (w_now W) < 100 by omega) (fun z => ex (Or.inl z)) (fun z => ex (Or.inr z)) (by decide)
      have eb : (!decide (nI top < nI 1) && !decide (nI (c_lf (w_now W)) ≤ nI top)) = true := by rw [decide_eq_false (fun z => ex (Or.inl z)), decide_eq_false (fun z => ex (Or.inr z))]; rfl
      rw [r_back, if_neg ef, if_neg ex, eb, m_cl (by omega)]
      have lu := g_until_lt (show c_lf (w_now W) < 25 by omega) t2 (Nat.le_refl _)
      refine m_E.ift (rfl) rfl ?_
      refine m_E.run 2 (pc1 := 31) (ls1 := [some _, some _, some _, none]) (st1 := [_, _]) rfl ?_
      refine m_E.ov hpk.2.1 hpk.1 rfl rfl rfl (c_left (d := d + 4) hpk) ?_
      change m_E _ _ _ _ (.int (nI (c_lf (w_now W))) :: _) _ _
      refine m_E.cv rfl rfl (c_until (d := d + 2) rfl rfl (by omega) t2) ?_
      refine m_E.run 3 (pc1 := 42) (ls1 := [some _, some _, some _, some _]) (st1 := [_, _]) rfl ?_
      by_cases e5 : g_until top (c_lf (w_now W)) (c_lf (w_now W)) ≤ 500
      · skip
        rw [if_pos e5]
        refine m_E.ict ((m_leI (by omega) (by omega)).trans (decide_eq_true e5)) rfl ?_
        refine m_E.run 1 (pc1 := 51) (ls1 := [some _, some _, some _, some _]) (st1 := [_]) rfl ?_
        exact m_E.iret rfl ⟨rfl, rfl⟩
      · skip
        rw [if_neg e5]
        refine m_E.icf ((m_leI (by omega) (by omega)).trans (decide_eq_false e5)) rfl ?_
        refine m_E.run 2 (pc1 := 51) (ls1 := [some _, some _, some _, some _]) (st1 := [_]) rfl ?_
        exact m_E.iret rfl ⟨rfl, rfl⟩
def g_hm (s : c_Sh) (w : Nat) : Nat := g_home s.1 w 24
def r_best (F : Nat → c_Sh) (S : c_St) : Int32 := match c_top S with
  | none => -4
  | some k => if c_piled S = 0 then -4 else nI (g_wf (g_hm (g_sh F k)) 3).1
theorem o_bestWay {d : Nat} {n p : Nat} {F : Nat → c_Sh} {W : c_W} {h : m_Hp} (H : Hcl h n F W) (ok : Okw n p W) : m_Call m_P (d + 6) 78 [.ref 4] (h) (some (.int (r_best F (w_now W)))) (h) := by
  refine m_call_of (tab := tX5_bestWay) (nL := 6) rfl rfl ?_
  have l12 := ok.1.1.2.2.2.2.2.2.2.2.2.2.2.1
  refine m_E.run 1 (pc1 := 1) (ls1 := [some _, none, none, none, none, none]) (st1 := [_]) rfl ?_
  refine m_E.gf H.o (by decide) rfl rfl ?_
  refine m_E.run 1 (pc1 := 5) (ls1 := [some _, none, none, none, none, none]) (st1 := [_, _]) rfl ?_
  by_cases e0 : c_piled (w_now W) = 0
  · skip
    have er : r_best F (w_now W) = -4 := by rw [r_best]; split; rfl; rw [if_pos e0]
    rw [er]
    refine m_E.ov H.now.2.1 (by decide) rfl rfl rfl (c_sheetAt0 H.now ok.1.1 (Or.inr (by rw [e0]; decide))) ?_
    refine m_E.run 2 (pc1 := 10) (ls1 := [some _, some _, none, none, none, none]) (st1 := [_]) rfl ?_
    refine m_E.run 1 (pc1 := 13) (ls1 := [some _, some _, none, none, none, none]) (st1 := []) rfl ?_
    refine m_E.run 1 (pc1 := 15) (ls1 := [some _, some _, none, none, none, none]) (st1 := [_]) rfl ?_
    exact m_E.iret rfl ⟨rfl, rfl⟩
  · skip
    obtain ⟨i, hi, et⟩ := ok.1.2.2.1.2.1 (c_piled (w_now W) - 1) (by omega)
    obtain ⟨s1, s2, s3⟩ := H.sheet ⟨i, hi, rfl⟩
    have fl : ∀ k, g_hm (g_sh F (69 + 4 * i)) k < 25 := fun k => Nat.lt_succ_of_le (g_cnt_le _ 24)
    refine m_E.ov H.now.2.1 (by decide) rfl rfl rfl (c_sheetAt (j := 0) H.now ok.1.1 rfl (by omega)) ?_
    rw [Nat.sub_zero, et]
    have er : r_best F (w_now W) = nI (g_wf (g_hm (g_sh F (69 + 4 * i))) 3).1 := by rw [r_best, c_top, et]; dsimp only; rw [if_neg e0]
    rw [er]
    refine m_E.run 2 (pc1 := 10) (ls1 := [some _, some _, none, none, none, none]) (st1 := [_]) rfl ?_
    refine m_E.run 1 (pc1 := 16) (ls1 := [some _, some _, none, none, none, none]) (st1 := []) rfl ?_
    refine m_E.run 4 (pc1 := 20) (ls1 := [some _, some _, some _, none, none, none]) (st1 := [_, _]) rfl ?_
    refine m_E.ov s1.2.1 s1.1 rfl rfl rfl (c_atHome (d := d + 1) s1 s2.2.1 (way := 0) rfl (by decide)) ?_
    change m_E _ _ _ _ (.int (nI (g_hm (g_sh F (69 + 4 * i)) 0)) :: _) _ _
    refine m_E.run 3 (pc1 := 27) (ls1 := [some _, some _, some _, some _, some _, none]) (st1 := []) rfl ?_
    refine m_E.lp (fun j ls hh => ∃ v, ls = [some (.ref 4), some (.ref (69 + 4 * i)), some (.int (nI (g_wf (g_hm (g_sh F (69 + 4 * i))) j).1)), some (.int (nI (g_wf (g_hm (g_sh F (69 + 4 * i))) j).2)), some (.int (nI (j + 1))), v] ∧ (hh = h)) 3 ?_ ?_ ?_
    · skip
      rintro j _ hh hi ⟨v, rfl, hI⟩ K
      subst hI
      obtain ⟨lw1, lw2⟩ := g_wf_lt fl j
      have lf := fl (j + 1)
      refine m_E.run 2 (pc1 := 30) (ls1 := [some _, some _, some _, some _, some _, _]) (st1 := [_, _]) rfl ?_
      refine m_E.icf ((m_leI (by omega) (by omega)).trans (decide_eq_false (by omega))) rfl ?_
      refine m_E.run 2 (pc1 := 36) (ls1 := [some _, some _, some _, some _, some _, _]) (st1 := [_, _]) rfl ?_
      refine m_E.ov s1.2.1 s1.1 rfl rfl rfl (c_atHome (d := d + 1) s1 s2.2.1 (way := j + 1) rfl (by omega)) ?_
      change m_E _ _ _ _ (.int (nI (g_hm (g_sh F (69 + 4 * i)) (j + 1))) :: _) _ _
      refine m_E.run 3 (pc1 := 44) (ls1 := [some _, some _, some _, some _, some _, some _]) (st1 := [_, _]) rfl ?_
      by_cases e : g_hm (g_sh F (69 + 4 * i)) (j + 1) < (g_wf (g_hm (g_sh F (69 + 4 * i))) j).2
      · skip
        refine m_E.icf ((m_leI (by omega) (by omega)).trans (decide_eq_false (by omega))) rfl ?_
        refine m_E.run 6 (pc1 := 27) (ls1 := [some _, some _, some _, some _, some _, some _]) (st1 := []) rfl ?_
        rw [nI_add]
        exact K _ _ ⟨_, by rw [g_wf, if_pos e], rfl⟩
      · skip
        refine m_E.ict ((m_leI (by omega) (by omega)).trans (decide_eq_true (by omega))) rfl ?_
        refine m_E.run 2 (pc1 := 27) (ls1 := [some _, some _, some _, some _, some _, some _]) (st1 := []) rfl ?_
        rw [nI_add]
        exact K _ _ ⟨_, by rw [g_wf, if_neg e], rfl⟩
    · skip
      exact ⟨none, rfl, rfl⟩
    · skip
      rintro _ hh ⟨v, rfl, hI⟩
      subst hI
      refine m_E.run 2 (pc1 := 30) (ls1 := [some _, some _, some _, some _, some _, _]) (st1 := [_, _]) rfl ?_
      refine m_E.ict (by decide) rfl ?_
      refine m_E.run 1 (pc1 := 60) (ls1 := [some _, some _, some _, some _, some _, _]) (st1 := [_]) rfl ?_
      exact m_E.iret rfl ⟨rfl, rfl⟩
def r_chances (F : Nat → c_Sh) (S : c_St) : UInt32 := match c_fr S with
  | none => 3212836864
  | some k => g_sum (g_can (c_order S) (g_sh F k).2.1 (c_dealt S) (24 - c_dealt S)) (24 - c_dealt S)
theorem o_chances {d : Nat} {n p : Nat} {F : Nat → c_Sh} {W : c_W} {h : m_Hp} (hn : g_num) (H : Hcl h n F W) (ok : Okw n p W) : m_Call m_P (d + 6) 75 [.ref 4] (h) (some (.float (r_chances F (w_now W)))) (h) := by
  refine m_call_of (tab := tX5_chances) (nL := 1) rfl rfl ?_
  have hpk := H.now.pk ok.1.1
  have hps := H.ps ok
  refine m_E.run 1 (pc1 := 1) (ls1 := [some _]) (st1 := [_]) rfl ?_
  refine m_E.gf H.o (by decide) rfl rfl ?_
  refine m_E.gf H.now.2.1 (by decide) rfl rfl ?_
  refine m_E.ov hpk.2.1 hpk.1 rfl rfl rfl (c_isThere (d := d + 4) hpk) ?_
  rcases ef : c_fr (w_now W) with _ | k
  · skip
    rw [r_chances, ef]
    refine m_E.ift (rfl) rfl ?_
    refine m_E.run 1 (pc1 := 28) (ls1 := [some _]) (st1 := [_]) rfl ?_
    exact m_E.ret rfl rfl ⟨rfl, rfl⟩
  · skip
    rw [r_chances, ef]
    have es : c_shf F (w_now W) = g_sh F k := by rw [c_shf, ef]
    rw [es, ef] at hps
    refine m_E.iff (rfl) rfl ?_
    refine m_E.run 1 (pc1 := 14) (ls1 := [some _]) (st1 := [_]) rfl ?_
    refine m_E.gf H.o (by decide) rfl rfl ?_
    refine m_E.gf H.now.2.1 (by decide) rfl rfl ?_
    refine m_E.ov hpk.2.1 hpk.1 rfl rfl rfl (c_sum (d := d) hn hps) ?_
    refine m_E.run 1 (pc1 := 28) (ls1 := [some _]) (st1 := [_]) rfl ?_
    exact m_E.ret rfl rfl ⟨rfl, rfl⟩
