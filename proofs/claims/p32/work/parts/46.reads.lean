/-! the calls that only tell -/
section
variable {C : m_CR} {tab : m_Tab} {pc : Nat} {ls : m_Ls} {st : List Value} {h : m_Hp} {Q : Option Value → m_Hp → Prop}
theorem m_E.tsw {lo hi : Int} {d t : Nat} {tg : List Nat} {x : Int32} (hx : (if x.toInt < lo ∨ hi < x.toInt then d else tg.getD (x.toInt - lo).toNat 0) = t) (e1 : m_at tab pc = some (m_tsw lo hi d tg)) (kk : m_E C tab t ls st h Q) : m_E C tab pc ls (.int x :: st) h Q := m_E.op e1 (by unfold m_tsw; dsimp only; rw [hx]) kk
theorem m_E.lsw {lo hi : Int32} {d t t0 t1 : Nat} {x : Int32} (hx : (if x = lo then t0 else if x = hi then t1 else d) = t) (e1 : m_at tab pc = some (m_lsw lo hi d t0 t1)) (kk : m_E C tab t ls st h Q) : m_E C tab pc ls (.int x :: st) h Q := m_E.op e1 (by unfold m_lsw; dsimp only; rw [hx]) kk
end
def r_block (S : c_St) (x y : Int32) : Int32 := if g_in 24 x = true then (if y = nI 0 then nI ((c_cards S).getD x.toNatClampNeg 0) else if y = nI 1 then nI ((c_backs S).getD x.toNatClampNeg 0) else -2) else -1
theorem o_block {d : Nat} {n : List Nat} {p : Nat} {F : Nat → c_Sh} {W : c_W} {x y : Int32} {h : m_Hp} (H : Hcl h n F W) (ok : Okw n p W) : m_Call m_P (d + 6) 52 [.ref 4, .int x, .int y] (h) (some (.int (r_block (w_now W) x y))) (h) := by
  refine m_call_of (tab := tX5_block) (nL := 3) rfl rfl ?_
  have lc := ok.1.1.1
  have lb := ok.1.1.2.2.2.1
  refine m_E.run 1 (pc1 := 1) (ls1 := [some _, some _, some _]) (st1 := [_]) rfl ?_
  refine m_E.cv rfl rfl (c_isCell) ?_
  cases ex : g_in 24 x
  · skip
    rw [r_block, if_neg (by rw [ex]; decide)]
    refine m_E.iff (rfl) rfl ?_
    refine m_E.run 1 (pc1 := 8) (ls1 := [some _, some _, some _]) (st1 := [_]) rfl ?_
    exact m_E.iret rfl ⟨rfl, rfl⟩
  · skip
    obtain ⟨i, hi, rfl⟩ := g_in_of ex (by decide)
    rw [r_block, if_pos ex, m_cl (by omega)]
    refine m_E.ift (rfl) rfl ?_
    refine m_E.run 1 (pc1 := 10) (ls1 := [some _, some _, some _]) (st1 := [_]) rfl ?_
    by_cases e0 : y = nI 0
    · skip
      rw [if_pos e0]
      refine m_E.lsw (t := 36) (by rw [if_pos e0]) rfl ?_
      refine m_E.run 1 (pc1 := 37) (ls1 := [some _, some _, some _]) (st1 := [_]) rfl ?_
      refine m_E.gf H.o (by decide) rfl rfl ?_
      refine m_E.gf H.now.2.1 (by decide) rfl rfl ?_
      refine m_E.run 1 (pc1 := 44) (ls1 := [some _, some _, some _]) (st1 := [_, _]) rfl ?_
      refine m_E.cv rfl rfl (c_at H.now.2.2.1 rfl (by rw [List.length_map]; omega) (by rw [List.length_map]; omega)) ?_
      rw [m_mapD]
      exact m_E.iret rfl ⟨rfl, rfl⟩
    · skip
      rw [if_neg e0]
      by_cases e1 : y = nI 1
      · skip
        rw [if_pos e1]
        refine m_E.lsw (t := 48) (by rw [if_neg e0, if_pos e1]) rfl ?_
        refine m_E.run 1 (pc1 := 49) (ls1 := [some _, some _, some _]) (st1 := [_]) rfl ?_
        refine m_E.gf H.o (by decide) rfl rfl ?_
        refine m_E.gf H.now.2.1 (by decide) rfl rfl ?_
        refine m_E.run 1 (pc1 := 56) (ls1 := [some _, some _, some _]) (st1 := [_, _]) rfl ?_
        refine m_E.cv rfl rfl (c_at H.now.2.2.2.2.1 rfl (by rw [List.length_map]; omega) (by rw [List.length_map]; omega)) ?_
        rw [m_mapD]
        exact m_E.iret rfl ⟨rfl, rfl⟩
      · skip
        rw [if_neg e1]
        refine m_E.lsw (t := 60) (by rw [if_neg e0, if_neg e1]) rfl ?_
        refine m_E.run 1 (pc1 := 62) (ls1 := [some _, some _, some _]) (st1 := [_]) rfl ?_
        exact m_E.iret rfl ⟨rfl, rfl⟩
def g_ix (l : List Nat) (v : Nat) : Nat → Nat → Nat
  | 0, k => k
  | fuel + 1, k => if l.getD k 0 = v then k else g_ix l v fuel (k + 1)
theorem g_ix_ok (l : List Nat) (v : Nat) : ∀ fuel k, k ≤ g_ix l v fuel k ∧ g_ix l v fuel k ≤ k + fuel ∧ (g_ix l v fuel k < k + fuel → l.getD (g_ix l v fuel k) 0 = v) ∧ ∀ i, k ≤ i → i < g_ix l v fuel k → l.getD i 0 ≠ v
  | 0, k => ⟨Nat.le_refl _, Nat.le_refl _, fun h => absurd h (Nat.lt_irrefl _), fun i h1 h2 => absurd h2 (Nat.not_lt.mpr h1)⟩
  | fuel + 1, k => by
    rw [g_ix]
    by_cases e : l.getD k 0 = v
    · rw [if_pos e]
      exact ⟨Nat.le_refl _, by omega, fun _ => e, fun i h1 h2 => absurd h2 (Nat.not_lt.mpr h1)⟩
    · rw [if_neg e]
      obtain ⟨a, b, c, d⟩ := g_ix_ok l v fuel (k + 1)
      refine ⟨by omega, by omega, fun h => c (by omega), fun i h1 h2 => ?_⟩
      by_cases z : i = k
      · rw [z]; exact e
      · exact d i (by omega) h2
theorem g_ix_perm {l : List Nat} {v : Nat} (hp : g_perm l) (hv : v < 24) : g_ix l v 24 0 < 24 := by
  obtain ⟨j, hj, e⟩ := hp v hv
  obtain ⟨a, b, c, d⟩ := g_ix_ok l v 24 0
  by_cases z : g_ix l v 24 0 < 24
  · exact z
  · exact absurd e (d j (by omega) (by omega))
def r_place (S : c_St) (card : Nat) : Int32 := if g_ix (c_order S) card (c_lf S) (c_dealt S) < c_dealt S + c_lf S then nI (g_ix (c_order S) card (c_lf S) (c_dealt S) - c_dealt S) else -5
def r_marks (F : Nat → c_Sh) (S : c_St) (card : Nat) : Int32 := match c_fr S with
  | none => -5
  | some k => nI ((g_sh F k).2.1.getD card 0)
def r_cardOf (F : Nat → c_Sh) (S : c_St) (x y : Int32) : Int32 := if g_in 24 x = true then (if y = nI 0 then nI (g_ix (c_cards S) x.toNatClampNeg 24 0) else if y = nI 1 then (c_leans S).getD x.toNatClampNeg 0 + nI 100 else if y = nI 2 then r_place S x.toNatClampNeg else if y = nI 3 then r_marks F S x.toNatClampNeg else -2) else -1
theorem m_sw4 {y : Int32} {n : Nat} (hn : n < 100) (h : ∀ k, k < n → y ≠ nI k) : y.toInt < 0 ∨ (n : Int) - 1 < y.toInt := by
  by_cases z : y.toInt < 0
  · exact Or.inl z
  · by_cases z2 : (n : Int) - 1 < y.toInt
    · exact Or.inr z2
    · exact absurd (Int32.toInt_inj.mp (by rw [nI_toInt (by omega)]; omega)) (h y.toInt.toNat (by omega))
theorem o_cardOf {d : Nat} {n : List Nat} {p : Nat} {F : Nat → c_Sh} {W : c_W} {x y : Int32} {h : m_Hp} (H : Hcl h n F W) (ok : Okw n p W) : m_Call m_P (d + 6) 53 [.ref 4, .int x, .int y] (h) (some (.int (r_cardOf F (w_now W) x y))) (h) := by
  refine m_call_of (tab := tX5_cardOf) (nL := 3) rfl rfl ?_
  have hpk := H.now.pk ok.1.1
  have ll := ok.1.1.2.2.1
  have hlf : c_lf (w_now W) ≤ 24 := g_left_le _ _
  refine m_E.run 1 (pc1 := 1) (ls1 := [some _, some _, some _]) (st1 := [_]) rfl ?_
  refine m_E.cv rfl rfl (c_isCard) ?_
  cases ex : g_in 24 x
  · skip
    rw [r_cardOf, if_neg (by rw [ex]; decide)]
    refine m_E.iff (rfl) rfl ?_
    refine m_E.run 1 (pc1 := 8) (ls1 := [some _, some _, some _]) (st1 := [_]) rfl ?_
    exact m_E.iret rfl ⟨rfl, rfl⟩
  · skip
    obtain ⟨i, hi, rfl⟩ := g_in_of ex (by decide)
    rw [r_cardOf, if_pos ex, m_cl (by omega)]
    refine m_E.ift (rfl) rfl ?_
    refine m_E.run 1 (pc1 := 10) (ls1 := [some _, some _, some _]) (st1 := [_]) rfl ?_
    by_cases e0 : y = nI 0
    · skip
      rw [if_pos e0]
      subst e0
      refine m_E.tsw (t := 40) (by decide) rfl ?_
      refine m_E.run 1 (pc1 := 41) (ls1 := [some _, some _, some _]) (st1 := [_]) rfl ?_
      refine m_E.gf H.o (by decide) rfl rfl ?_
      refine m_E.run 1 (pc1 := 45) (ls1 := [some _, some _, some _]) (st1 := [_, _]) rfl ?_
      obtain ⟨_, _, a3, a4⟩ := g_ix_ok (c_cards (w_now W)) i 24 0
      have a5 := g_ix_perm ok.1.2.2.2.1 hi
      refine m_E.ov H.now.2.1 (by decide) rfl rfl rfl (c_cellOf (d := d + 4) H.now ok.1.1 rfl hi (g_ix (c_cards (w_now W)) i 24 0) ⟨a5, a3 a5, fun k hk => a4 k (Nat.zero_le _) hk⟩) ?_
      exact m_E.iret rfl ⟨rfl, rfl⟩
    · skip
      rw [if_neg e0]
      by_cases e1 : y = nI 1
      · skip
        rw [if_pos e1]
        subst e1
        refine m_E.tsw (t := 49) (by decide) rfl ?_
        refine m_E.run 1 (pc1 := 50) (ls1 := [some _, some _, some _]) (st1 := [_]) rfl ?_
        refine m_E.gf H.o (by decide) rfl rfl ?_
        refine m_E.gf H.now.2.1 (by decide) rfl rfl ?_
        refine m_E.run 1 (pc1 := 57) (ls1 := [some _, some _, some _]) (st1 := [_, _]) rfl ?_
        refine m_E.cv rfl rfl (c_at H.now.2.2.2.1 rfl (by omega) (by omega)) ?_
        refine m_E.run 2 (pc1 := 63) (ls1 := [some _, some _, some _]) (st1 := [_]) rfl ?_
        dsimp only
        exact m_E.iret rfl ⟨rfl, rfl⟩
      · skip
        rw [if_neg e1]
        by_cases e2 : y = nI 2
        · skip
          rw [if_pos e2]
          subst e2
          refine m_E.tsw (t := 64) (by decide) rfl ?_
          refine m_E.run 1 (pc1 := 65) (ls1 := [some _, some _, some _]) (st1 := [_]) rfl ?_
          refine m_E.gf H.o (by decide) rfl rfl ?_
          refine m_E.gf H.now.2.1 (by decide) rfl rfl ?_
          refine m_E.run 1 (pc1 := 72) (ls1 := [some _, some _, some _]) (st1 := [_, _]) rfl ?_
          obtain ⟨a1, a2, a3, a4⟩ := g_ix_ok (c_order (w_now W)) i (c_lf (w_now W)) (c_dealt (w_now W))
          refine m_E.ov hpk.2.1 hpk.1 rfl rfl rfl (c_placeOf (d := d + 2) hpk rfl hi (r_place (w_now W) i) (by by_cases z : g_ix (c_order (w_now W)) i (c_lf (w_now W)) (c_dealt (w_now W)) < c_dealt (w_now W) + c_lf (w_now W); exact Or.inl ⟨g_ix (c_order (w_now W)) i (c_lf (w_now W)) (c_dealt (w_now W)) - c_dealt (w_now W), (show _ < c_lf (w_now W) by omega), by rw [Nat.add_sub_cancel' a1]; exact a3 z, fun k hk => a4 _ (by omega) (by omega), by rw [r_place, if_pos z]⟩; exact Or.inr ⟨fun k hk => a4 _ (by omega) (by have hk2 : k < c_lf (w_now W) := hk; omega), by rw [r_place, if_neg z]⟩)) ?_
          exact m_E.iret rfl ⟨rfl, rfl⟩
        · skip
          rw [if_neg e2]
          by_cases e3 : y = nI 3
          · skip
            rw [if_pos e3]
            subst e3
            refine m_E.tsw (t := 76) (by decide) rfl ?_
            refine m_E.run 1 (pc1 := 77) (ls1 := [some _, some _, some _]) (st1 := [_]) rfl ?_
            refine m_E.gf H.o (by decide) rfl rfl ?_
            refine m_E.gf H.now.2.1 (by decide) rfl rfl ?_
            refine m_E.run 1 (pc1 := 84) (ls1 := [some _, some _, some _]) (st1 := [_, _]) rfl ?_
            rcases ef : c_fr (w_now W) with _ | k
            · skip
              rw [ef] at hpk
              rw [r_marks, ef]
              refine m_E.ov hpk.2.1 hpk.1 rfl rfl rfl (c_marksOf0 (d := d + 3) hpk) ?_
              exact m_E.iret rfl ⟨rfl, rfl⟩
            · skip
              obtain ⟨s1, s2, s3⟩ := H.sheet (ok.1.2.2.1.2.2 k ef)
              rw [ef] at hpk
              rw [r_marks, ef]
              refine m_E.ov hpk.2.1 hpk.1 rfl rfl rfl (c_marksOf (d := d + 3) hpk s1 rfl hi) ?_
              exact m_E.iret rfl ⟨rfl, rfl⟩
          · skip
            rw [if_neg e3]
            refine m_E.tsw (t := 88) (if_pos (m_sw4 (n := 4) (by decide) (fun k hk => by match k, hk with | 0, _ => exact e0 | 1, _ => exact e1 | 2, _ => exact e2 | 3, _ => exact e3))) rfl ?_
            refine m_E.run 1 (pc1 := 90) (ls1 := [some _, some _, some _]) (st1 := [_]) rfl ?_
            exact m_E.iret rfl ⟨rfl, rfl⟩
def r_sheet (F : Nat → c_Sh) (S : c_St) (x y z : Int32) : Int32 := if g_in (c_piled S) x = true ∧ g_in 24 y = true then (match (c_pile S).getD (c_piled S - 1 - x.toNatClampNeg) none with
  | none => -1
  | some k => if z = nI 0 then nI ((g_sh F k).1.getD y.toNatClampNeg 0) else if z = nI 1 then nI ((g_sh F k).2.1.getD ((g_sh F k).1.getD y.toNatClampNeg 0) 0) else -2) else -1
theorem o_sheet {d : Nat} {n : List Nat} {p : Nat} {F : Nat → c_Sh} {W : c_W} {x y z : Int32} {h : m_Hp} (H : Hcl h n F W) (ok : Okw n p W) : m_Call m_P (d + 6) 54 [.ref 4, .int x, .int y, .int z] (h) (some (.int (r_sheet F (w_now W) x y z))) (h) := by
  refine m_call_of (tab := tX5_sheet) (nL := 6) rfl rfl ?_
  have l12 := ok.1.1.2.2.2.2.2.2.2.2.2.2.2.1
  refine m_E.run 1 (pc1 := 1) (ls1 := [some _, some _, some _, some _, none, none]) (st1 := [_]) rfl ?_
  refine m_E.gf H.o (by decide) rfl rfl ?_
  refine m_E.run 1 (pc1 := 5) (ls1 := [some _, some _, some _, some _, none, none]) (st1 := [_, _]) rfl ?_
  cases ex : g_in (c_piled (w_now W)) x
  · skip
    rw [r_sheet, if_neg (by rw [ex]; simp)]
    refine m_E.ov H.now.2.1 (by decide) rfl rfl rfl (c_sheetAt0 H.now ok.1.1 (by unfold g_in at ex; by_cases z : x < 0; exact Or.inl z; rw [decide_eq_false z] at ex; exact Or.inr (of_decide_eq_true (by simpa using ex)))) ?_
    refine m_E.run 2 (pc1 := 12) (ls1 := [some _, some _, some _, some _, some _, none]) (st1 := [_]) rfl ?_
    refine m_E.run 1 (pc1 := 22) (ls1 := [some _, some _, some _, some _, some _, none]) (st1 := []) rfl ?_
    refine m_E.run 1 (pc1 := 23) (ls1 := [some _, some _, some _, some _, some _, none]) (st1 := [_]) rfl ?_
    exact m_E.iret rfl ⟨rfl, rfl⟩
  · skip
    obtain ⟨j, hj, rfl⟩ := g_in_of ex (by omega)
    obtain ⟨i, hi, et⟩ := ok.1.2.2.1.2.1 (c_piled (w_now W) - 1 - j) (by omega)
    obtain ⟨s1, s2, s3⟩ := H.sheet hi
    refine m_E.ov H.now.2.1 (by decide) rfl rfl rfl (c_sheetAt H.now ok.1.1 rfl hj) ?_
    rw [et]
    refine m_E.run 2 (pc1 := 12) (ls1 := [some _, some _, some _, some _, some _, none]) (st1 := [_]) rfl ?_
    refine m_E.run 1 (pc1 := 15) (ls1 := [some _, some _, some _, some _, some _, none]) (st1 := []) rfl ?_
    refine m_E.run 1 (pc1 := 16) (ls1 := [some _, some _, some _, some _, some _, none]) (st1 := [_]) rfl ?_
    refine m_E.cv rfl rfl (c_isCell) ?_
    cases ey : g_in 24 y
    · skip
      rw [r_sheet, if_neg (by rw [ey]; simp)]
      refine m_E.iff (rfl) rfl ?_
      refine m_E.run 1 (pc1 := 23) (ls1 := [some _, some _, some _, some _, some _, none]) (st1 := [_]) rfl ?_
      exact m_E.iret rfl ⟨rfl, rfl⟩
    · skip
      obtain ⟨q, hq, rfl⟩ := g_in_of ey (by decide)
      rw [r_sheet, if_pos ⟨ex, ey⟩, m_cl (show j < 2 ^ 31 by omega), et, m_cl (show q < 2 ^ 31 by omega)]
      dsimp only
      have hc : (g_sh F i).1.getD q 0 < 24 := g_getD_lt s2.2.1 (by rw [s1.2.2.2.2.2.1]; exact hq)
      refine m_E.ift (rfl) rfl ?_
      refine m_E.run 1 (pc1 := 26) (ls1 := [some _, some _, some _, some _, some _, none]) (st1 := [_]) rfl ?_
      refine m_E.gf s1.2.1 s1.1 rfl rfl ?_
      refine m_E.run 1 (pc1 := 30) (ls1 := [some _, some _, some _, some _, some _, none]) (st1 := [_, _]) rfl ?_
      refine m_E.cv rfl rfl (c_at s1.2.2.1 rfl (by rw [List.length_map, s1.2.2.2.2.2.1]; exact hq) (by rw [List.length_map, s1.2.2.2.2.2.1]; decide)) ?_
      rw [m_mapD]
      refine m_E.run 2 (pc1 := 36) (ls1 := [some _, some _, some _, some _, some _, some _]) (st1 := [_]) rfl ?_
      by_cases e0 : z = nI 0
      · skip
        rw [if_pos e0]
        refine m_E.lsw (t := 64) (by rw [if_pos e0]) rfl ?_
        refine m_E.run 1 (pc1 := 66) (ls1 := [some _, some _, some _, some _, some _, some _]) (st1 := [_]) rfl ?_
        exact m_E.iret rfl ⟨rfl, rfl⟩
      · skip
        rw [if_neg e0]
        by_cases e1 : z = nI 1
        · skip
          rw [if_pos e1]
          refine m_E.lsw (t := 67) (by rw [if_neg e0, if_pos e1]) rfl ?_
          refine m_E.run 1 (pc1 := 69) (ls1 := [some _, some _, some _, some _, some _, some _]) (st1 := [_]) rfl ?_
          refine m_E.gf s1.2.1 s1.1 rfl rfl ?_
          refine m_E.run 1 (pc1 := 74) (ls1 := [some _, some _, some _, some _, some _, some _]) (st1 := [_, _]) rfl ?_
          refine m_E.cv rfl rfl (c_at s1.2.2.2.1 rfl (by rw [List.length_map, s1.2.2.2.2.2.2.1]; exact hc) (by rw [List.length_map, s1.2.2.2.2.2.2.1]; decide)) ?_
          rw [m_mapD]
          exact m_E.iret rfl ⟨rfl, rfl⟩
        · skip
          rw [if_neg e1]
          refine m_E.lsw (t := 78) (by rw [if_neg e0, if_neg e1]) rfl ?_
          refine m_E.run 1 (pc1 := 80) (ls1 := [some _, some _, some _, some _, some _, some _]) (st1 := [_]) rfl ?_
          exact m_E.iret rfl ⟨rfl, rfl⟩
