/-! sell, pulp, cutSheet -/
def g_sh (F : Nat → c_Sh) (k : Nat) : c_Sh := F k
theorem Hcl.sheet {h : m_Hp} {n : List Nat} {F : Nat → c_Sh} {W : c_W} (H : Hcl h n F W) {k : Nat} (hk : k ∈ n) : Hsh h k (g_sh F k) ∧ s_ok (g_sh F k) ∧ 69 ≤ k := by
  obtain ⟨q1, q2, q3, q4⟩ := H.shp.2 k hk
  exact ⟨q3, q4, q1⟩
def c_sale (S : c_St) : c_St := c_away (c_setSold (c_setCoins S (c_coins S + nI ((c_settings S).getD 3 0))) (c_sold S + nI 1))
def b_sell (F : Nat → c_Sh) (S : c_St) : Int32 × Option c_St := match c_fr S with
  | none => (-4, none)
  | some k => if g_reason S (g_sh F k) = 0 then (nI ((c_settings S).getD 3 0), some (c_sale S)) else (-10 - nI (g_reason S (g_sh F k)), none)
def c_pulp (S : c_St) : c_St := c_away (c_setPulped S (c_pulped S + nI 1))
def b_pulp (S : c_St) : Int32 × Option c_St := if c_fr S = none then (-4, none) else (nI (c_lf S), some (c_pulp S))
theorem g_reason_lt (S : c_St) (s : c_Sh) : g_reason S s < 4 := by
  unfold g_reason
  repeat' split
  all_goals decide
theorem o_sell {d : Nat} {n : List Nat} {p : Nat} {F : Nat → c_Sh} {W : c_W} {h : m_Hp} (H : Hcl h n F W) (ok : Okw n p W) : ∃ r h', m_Call m_P (d + 7) 49 [.ref 4] (h) r h' ∧ (Opq n p F W h (b_sell F (w_now W)).1 (b_sell F (w_now W)).2) r h' := by
  refine m_call_ex (tab := tX5_sell) (nL := 3) rfl rfl ?_
  have hpk := H.now.pk ok.1.1
  have ls := ok.1.1.2.2.2.2.2.1
  refine m_E.run 1 (pc1 := 1) (ls1 := [some _, none, none]) (st1 := [_]) rfl ?_
  refine m_E.gf H.o (by decide) rfl rfl ?_
  refine m_E.gf H.now.2.1 (by decide) rfl rfl ?_
  refine m_E.ov hpk.2.1 hpk.1 rfl rfl rfl (c_isThere hpk) ?_
  rcases ef : c_fr (w_now W) with _ | k
  · skip
    have e : b_sell F (w_now W) = (-4, none) := by rw [b_sell, ef]
    rw [e]
    refine m_E.iff (rfl) rfl ?_
    refine m_E.run 1 (pc1 := 15) (ls1 := [some _, none, none]) (st1 := [_]) rfl ?_
    exact m_E.iret rfl ⟨rfl, H, ok, Frm.rf, rfl⟩
  · skip
    obtain ⟨s1, s2, s3⟩ := H.sheet (ok.1.2.2.1.2.2 k ef)
    refine m_E.ift (rfl) rfl ?_
    refine m_E.run 1 (pc1 := 17) (ls1 := [some _, none, none]) (st1 := [_]) rfl ?_
    refine m_E.gf H.o (by decide) rfl rfl ?_
    refine m_E.ov H.now.2.1 (by decide) rfl rfl rfl (c_reason (d := d) H.now ok.1.1 ef s1 s2.1) ?_
    have lr := g_reason_lt (w_now W) (g_sh F k)
    refine m_E.run 2 (pc1 := 25) (ls1 := [some _, some _, none]) (st1 := [_]) rfl ?_
    by_cases e0 : g_reason (w_now W) (g_sh F k) = 0
    · skip
      have e : b_sell F (w_now W) = (nI ((c_settings (w_now W)).getD 3 0), some (c_sale (w_now W))) := by rw [b_sell, ef]; dsimp only; rw [if_pos e0]
      rw [e]
      refine m_E.ift (by rw [e0]; rfl) rfl ?_
      refine m_E.run 1 (pc1 := 34) (ls1 := [some _, some _, none]) (st1 := [_]) rfl ?_
      refine m_E.gf H.o (by decide) rfl rfl ?_
      refine m_E.run 1 (pc1 := 38) (ls1 := [some _, some _, none]) (st1 := [_, _]) rfl ?_
      refine m_E.gf H.o (by decide) rfl rfl ?_
      obtain ⟨h1, p1, H1, f1, l1⟩ := c_rec (d := d + 1) H ok
      have ok1 := ok.rec
      refine m_E.on H.hist.2.1 (by decide) rfl rfl rfl (p1) ?_
      refine m_E.run 1 (pc1 := 45) (ls1 := [some _, some _, none]) (st1 := [_]) rfl ?_
      refine m_E.gf H1.o (by decide) rfl rfl ?_
      refine m_E.gf H1.now.2.1 (by decide) rfl rfl ?_
      refine m_E.run 1 (pc1 := 52) (ls1 := [some _, some _, none]) (st1 := [_, _]) rfl ?_
      refine m_E.cv rfl rfl (c_at H1.now.2.2.2.2.2.1 rfl (by rw [List.length_map]; show 3 < (c_settings (w_now W)).length; omega) (by rw [List.length_map]; show (c_settings (w_now W)).length < 2 ^ 31; omega)) ?_
      rw [m_mapD]
      refine m_E.run 2 (pc1 := 57) (ls1 := [some _, some _, some _]) (st1 := [_]) rfl ?_
      refine m_E.gf H1.o (by decide) rfl rfl ?_
      refine m_E.run 1 (pc1 := 61) (ls1 := [some _, some _, some _]) (st1 := [_, _]) rfl ?_
      refine m_E.gf H1.now.2.1 (by decide) rfl rfl ?_
      refine m_E.run 2 (pc1 := 66) (ls1 := [some _, some _, some _]) (st1 := [_, _]) rfl ?_
      dsimp only
      change m_E _ _ _ _ (.int (c_coins (w_now W) + nI ((c_settings (w_now W)).getD 3 0)) :: _) _ _
      refine H1.now.p10 rfl rfl (fun h2 g2 c2 => ?_)
      have H2 := H1.setS c2 g2
      refine m_E.run 1 (pc1 := 70) (ls1 := [some _, some _, some _]) (st1 := [_]) rfl ?_
      refine m_E.gf H2.o (by decide) rfl rfl ?_
      refine m_E.run 1 (pc1 := 74) (ls1 := [some _, some _, some _]) (st1 := [_, _]) rfl ?_
      refine m_E.gf H2.now.2.1 (by decide) rfl rfl ?_
      refine m_E.run 2 (pc1 := 79) (ls1 := [some _, some _, some _]) (st1 := [_, _]) rfl ?_
      dsimp only
      refine H2.now.p8 rfl rfl (fun h3 g3 c3 => ?_)
      have H3 := H2.setS c3 g3
      refine m_E.run 1 (pc1 := 83) (ls1 := [some _, some _, some _]) (st1 := [_]) rfl ?_
      refine m_E.gf H3.o (by decide) rfl rfl ?_
      refine m_E.gf H3.now.2.1 (by decide) rfl rfl ?_
      obtain ⟨_, h4, p4, rfl, g4, c4⟩ := c_takeAway (d := d + 5) H3.now
      refine m_E.on H3.now.2.2.2.2.2.2.2.1 (by decide) rfl rfl rfl (p4) ?_
      have H4 := H3.setS c4 g4
      refine m_E.run 1 (pc1 := 93) (ls1 := [some _, some _, some _]) (st1 := [_]) rfl ?_
      exact m_E.iret rfl ⟨rfl, H4, ok1.setS ((ok.1.coins _).sold _).away, f1.tr ((c2.tr (c3.tr c4)).frm (by decide) (by decide)), (c2.tr (c3.tr c4)).1.trans l1⟩
    · skip
      have e : b_sell F (w_now W) = (-10 - nI (g_reason (w_now W) (g_sh F k)), none) := by rw [b_sell, ef]; dsimp only; rw [if_neg e0]
      rw [e]
      refine m_E.iff (by rw [m_beq0 (by omega)]; exact decide_eq_false e0) rfl ?_
      refine m_E.run 3 (pc1 := 32) (ls1 := [some _, some _, none]) (st1 := [_]) rfl ?_
      dsimp only
      exact m_E.iret rfl ⟨rfl, H, ok, Frm.rf, rfl⟩
theorem o_pulp {d : Nat} {n : List Nat} {p : Nat} {F : Nat → c_Sh} {W : c_W} {h : m_Hp} (H : Hcl h n F W) (ok : Okw n p W) : ∃ r h', m_Call m_P (d + 6) 50 [.ref 4] (h) r h' ∧ (Opq n p F W h (b_pulp (w_now W)).1 (b_pulp (w_now W)).2) r h' := by
  refine m_call_ex (tab := tX5_pulp) (nL := 2) rfl rfl ?_
  have hpk := H.now.pk ok.1.1
  refine m_E.run 1 (pc1 := 1) (ls1 := [some _, none]) (st1 := [_]) rfl ?_
  refine m_E.gf H.o (by decide) rfl rfl ?_
  refine m_E.gf H.now.2.1 (by decide) rfl rfl ?_
  refine m_E.ov hpk.2.1 hpk.1 rfl rfl rfl (c_isThere hpk) ?_
  rcases ef : c_fr (w_now W) with _ | k
  · skip
    have e : b_pulp (w_now W) = (-4, none) := by rw [b_pulp, if_pos ef]
    rw [e]
    refine m_E.iff (rfl) rfl ?_
    refine m_E.run 1 (pc1 := 15) (ls1 := [some _, none]) (st1 := [_]) rfl ?_
    exact m_E.iret rfl ⟨rfl, H, ok, Frm.rf, rfl⟩
  · skip
    have e : b_pulp (w_now W) = (nI (c_lf (w_now W)), some (c_pulp (w_now W))) := by rw [b_pulp, if_neg (by rw [ef]; intro z; cases z)]
    rw [e]
    refine m_E.ift (rfl) rfl ?_
    refine m_E.run 1 (pc1 := 17) (ls1 := [some _, none]) (st1 := [_]) rfl ?_
    refine m_E.gf H.o (by decide) rfl rfl ?_
    refine m_E.run 1 (pc1 := 21) (ls1 := [some _, none]) (st1 := [_, _]) rfl ?_
    refine m_E.gf H.o (by decide) rfl rfl ?_
    obtain ⟨h1, p1, H1, f1, l1⟩ := c_rec (d := d) H ok
    have ok1 := ok.rec
    refine m_E.on H.hist.2.1 (by decide) rfl rfl rfl (p1) ?_
    refine m_E.run 1 (pc1 := 28) (ls1 := [some _, none]) (st1 := [_]) rfl ?_
    refine m_E.gf H1.o (by decide) rfl rfl ?_
    refine m_E.gf H1.now.2.1 (by decide) rfl rfl ?_
    have pk1 := H1.now.pk ok1.1.1
    refine m_E.ov pk1.2.1 pk1.1 rfl rfl rfl (c_left pk1) ?_
    change m_E _ _ _ _ (.int (nI (c_lf (w_now W))) :: _) _ _
    refine m_E.run 2 (pc1 := 39) (ls1 := [some _, some _]) (st1 := [_]) rfl ?_
    refine m_E.gf H1.o (by decide) rfl rfl ?_
    refine m_E.run 1 (pc1 := 43) (ls1 := [some _, some _]) (st1 := [_, _]) rfl ?_
    refine m_E.gf H1.now.2.1 (by decide) rfl rfl ?_
    refine m_E.run 2 (pc1 := 48) (ls1 := [some _, some _]) (st1 := [_, _]) rfl ?_
    dsimp only
    refine H1.now.p9 rfl rfl (fun h3 g3 c3 => ?_)
    have H3 := H1.setS c3 g3
    refine m_E.run 1 (pc1 := 52) (ls1 := [some _, some _]) (st1 := [_]) rfl ?_
    refine m_E.gf H3.o (by decide) rfl rfl ?_
    refine m_E.gf H3.now.2.1 (by decide) rfl rfl ?_
    obtain ⟨_, h4, p4, rfl, g4, c4⟩ := c_takeAway (d := d + 4) H3.now
    refine m_E.on H3.now.2.2.2.2.2.2.2.1 (by decide) rfl rfl rfl (p4) ?_
    have H4 := H3.setS c4 g4
    refine m_E.run 1 (pc1 := 62) (ls1 := [some _, some _]) (st1 := [_]) rfl ?_
    exact m_E.iret rfl ⟨rfl, H4, ok1.setS (ok.1.pulped _).away, f1.tr ((c3.tr c4).frm (by decide) (by decide)), (c3.tr c4).1.trans l1⟩
def c_top (S : c_St) : Option Nat := (c_pile S).getD (c_piled S - 1) none
def c_laid (F : Nat → c_Sh) (S : c_St) (k way : Nat) : c_St := c_setOrder (c_setDealt (c_setFr (c_setPile (c_setPiled S (c_piled S - 1)) ((c_pile S).set (c_piled S - 1) none)) (some k)) 0) (g_lay (g_sh F k).1 way 24 (c_order S))
def b_cut (F : Nat → c_Sh) (S : c_St) (x : Int32) : Int32 × Option c_St := if g_in 4 x = true then (if c_fr S = none ∧ 0 < c_piled S then (match c_top S with
  | none => (-4, none)
  | some k => (nI (c_piled S - 1), some (c_laid F S k x.toNatClampNeg))) else (-4, none)) else (-2, none)
theorem g_cellAt_lt : ∀ w, w < 4 → ∀ q, q < 24 → g_cellAt w q < 24 := by decide +kernel
theorem g_cellAt_onto : ∀ w, w < 4 → ∀ a, a < 24 → (List.range 24).any (fun q => g_cellAt w q == a) = true := by decide +kernel
theorem g_lay_get' {cards : List Nat} {way k : Nat} {xs : List Nat} (hk : k < 24) : (g_lay cards way 24 xs).getD k 0 = cards.getD (g_cellAt way k) 0 := by
  rw [List.getD_eq_getElem?_getD, g_lay_get hk, if_pos hk]; rfl
theorem g_lay_perm {cards : List Nat} {way : Nat} {xs : List Nat} (hw : way < 4) (hp : g_perm cards) : g_perm (g_lay cards way 24 xs) := by
  intro v hv
  obtain ⟨j, hj, e⟩ := hp v hv
  obtain ⟨q, hq, e2⟩ := List.any_eq_true.mp (g_cellAt_onto way hw j hj)
  rw [List.mem_range] at hq
  refine ⟨q, hq, ?_⟩
  rw [g_lay_get' hq, of_decide_eq_true e2]; exact e
theorem g_lay_mem {cards : List Nat} {way : Nat} {xs : List Nat} (hw : way < 4) (hl : cards.length = 24) (hc : ∀ x, x ∈ cards → x < 24) (x : Nat) (hx : x ∈ g_lay cards way 24 xs) : x < 24 := by
  rw [g_lay, List.mem_map] at hx
  obtain ⟨k, hk, rfl⟩ := hx
  rw [List.mem_range] at hk
  rw [if_pos hk]
  exact g_getD_lt hc (by rw [hl]; exact g_cellAt_lt way hw k hk)
theorem Tok.laid {n : List Nat} {p k way : Nat} {F : Nat → c_Sh} {S : c_St} (t : Tok n p S) (h0 : 0 < c_piled S) (hk : c_top S = some k) (hw : way < 4) (so : s_ok (g_sh F k)) (sl : (g_sh F k).1.length = 24) : Tok n p (c_laid F S k way) := by
  obtain ⟨⟨k1, k2, k3, k4, k5, k6, k7, k8, k9, k10, k11, k12, k13⟩, l2, ⟨r1, r2, r3⟩, l4, l5, l6, l7⟩ := t
  refine ⟨⟨k1, k2, k3, k4, k5, k6, k7, (List.length_set ..).trans k8, g_lay_len _ _ _ _, g_lay_mem hw sl so.2.1, Nat.zero_le _, show c_piled S - 1 ≤ 6 by omega, k13⟩, l2, ⟨fun j hj => ?_, fun j hj => ?_, fun j hj => ?_⟩, l4, fun _ => g_lay_perm hw so.2.2, fun z => (by cases z), l7⟩
  · rcases List.mem_or_eq_of_mem_set (show some j ∈ (c_pile S).set (c_piled S - 1) none from hj) with z | z
    · exact r1 j z
    · cases z
  · have hj2 : j < c_piled S - 1 := hj
    obtain ⟨i, hi, e⟩ := r2 j (by omega)
    refine ⟨i, hi, ?_⟩
    show ((c_pile S).set (c_piled S - 1) none).getD j none = _
    rw [List.getD_eq_getElem?_getD, List.getElem?_set_ne (by omega), ← List.getD_eq_getElem?_getD]; exact e
  · cases hj
    obtain ⟨i, hi, e⟩ := r2 (c_piled S - 1) (by omega)
    rw [c_top, e] at hk
    rw [← Option.some.inj hk]; exact hi
theorem o_cutSheet {d : Nat} {n : List Nat} {p : Nat} {F : Nat → c_Sh} {W : c_W} {x : Int32} {h : m_Hp} (H : Hcl h n F W) (ok : Okw n p W) : ∃ r h', m_Call m_P (d + 6) 45 [.ref 4, .int x] (h) r h' ∧ (Opq n p F W h (b_cut F (w_now W) x).1 (b_cut F (w_now W) x).2) r h' := by
  refine m_call_ex (tab := tX5_cutSheet) (nL := 2) rfl rfl ?_
  have hpk := H.now.pk ok.1.1
  have l12 := ok.1.1.2.2.2.2.2.2.2.2.2.2.2.1
  have out : g_in 4 x = false → b_cut F (w_now W) x = (-2, none) := fun z => by rw [b_cut, if_neg (by rw [z]; simp)]
  refine m_E.run 1 (pc1 := 1) (ls1 := [some _, some _]) (st1 := [_]) rfl ?_
  refine m_E.if2 rfl (fun q1 => ?_) (fun q1 => ?_)
  · skip
    rw [out (by rw [g_in, q1]; rfl)]
    refine m_E.run 1 (pc1 := 11) (ls1 := [some _, some _]) (st1 := [_]) rfl ?_
    exact m_E.iret rfl ⟨rfl, H, ok, Frm.rf, rfl⟩
  · skip
    refine m_E.run 2 (pc1 := 6) (ls1 := [some _, some _]) (st1 := [_, _]) rfl ?_
    refine m_E.ic2 rfl (fun q2 => ?_) (fun q2 => ?_)
    · skip
      have ex : g_in 4 x = true := by rw [g_in, q1]; have z := of_decide_eq_true q2; rw [decide_eq_false (fun z2 => absurd z (Int32.not_lt.mpr z2))]; rfl
      obtain ⟨way, hw, rfl⟩ := g_in_of ex (by decide)
      refine m_E.run 1 (pc1 := 13) (ls1 := [some _, some _]) (st1 := [_]) rfl ?_
      refine m_E.gf H.o (by decide) rfl rfl ?_
      refine m_E.gf H.now.2.1 (by decide) rfl rfl ?_
      refine m_E.ov hpk.2.1 hpk.1 rfl rfl rfl (c_isThere hpk) ?_
      have bad : (¬ (c_fr (w_now W) = none ∧ 0 < c_piled (w_now W))) → m_E (m_Call m_P (d + 5)) tX5_cutSheet 36 [some (.ref 4), some (.int (nI way))] [] h (Opq n p F W h (b_cut F (w_now W) (nI way)).1 (b_cut F (w_now W) (nI way)).2) := by
        intro hb
        have e : b_cut F (w_now W) (nI way) = (-4, none) := by rw [b_cut, if_pos ex, if_neg hb]
        rw [e]
        refine m_E.run 1 (pc1 := 38) (ls1 := [some _, some _]) (st1 := [_]) rfl ?_
        exact m_E.iret rfl ⟨rfl, H, ok, Frm.rf, rfl⟩
      rcases ef : c_fr (w_now W) with _ | k
      · skip
        refine m_E.iff (rfl) rfl ?_
        refine m_E.run 1 (pc1 := 26) (ls1 := [some _, some _]) (st1 := [_]) rfl ?_
        refine m_E.gf H.o (by decide) rfl rfl ?_
        refine m_E.run 1 (pc1 := 30) (ls1 := [some _, some _]) (st1 := [_, _]) rfl ?_
        by_cases e0 : c_piled (w_now W) = 0
        · skip
          refine m_E.ov H.now.2.1 (by decide) rfl rfl rfl (c_sheetAt0 H.now ok.1.1 (Or.inr (by rw [e0]; decide))) ?_
          refine m_E.run 1 (pc1 := 36) (ls1 := [some _, some _]) (st1 := []) rfl ?_
          exact bad (fun z => by omega)
        · skip
          obtain ⟨i, hi, et⟩ := ok.1.2.2.1.2.1 (c_piled (w_now W) - 1) (by omega)
          obtain ⟨s1, s2, s3⟩ := H.sheet hi
          have l4 := H.shp.1
          refine m_E.ov H.now.2.1 (by decide) rfl rfl rfl (c_sheetAt (j := 0) H.now ok.1.1 rfl (by omega)) ?_
          rw [Nat.sub_zero, et]
          have e : b_cut F (w_now W) (nI way) = (nI (c_piled (w_now W) - 1), some (c_laid F (w_now W) i way)) := by rw [b_cut, if_pos ex, if_pos ⟨ef, by omega⟩, c_top, et, m_cl (by omega)]
          rw [e]
          refine m_E.run 1 (pc1 := 39) (ls1 := [some _, some _]) (st1 := []) rfl ?_
          refine m_E.run 1 (pc1 := 40) (ls1 := [some _, some _]) (st1 := [_]) rfl ?_
          refine m_E.gf H.o (by decide) rfl rfl ?_
          refine m_E.run 1 (pc1 := 44) (ls1 := [some _, some _]) (st1 := [_, _]) rfl ?_
          refine m_E.gf H.o (by decide) rfl rfl ?_
          obtain ⟨h1, p1, H1, f1, l1⟩ := c_rec (d := d) H ok
          have ok1 := ok.rec
          refine m_E.on H.hist.2.1 (by decide) rfl rfl rfl (p1) ?_
          refine m_E.run 1 (pc1 := 51) (ls1 := [some _, some _]) (st1 := [_]) rfl ?_
          refine m_E.gf H1.o (by decide) rfl rfl ?_
          refine m_E.gf H1.now.2.1 (by decide) rfl rfl ?_
          refine m_E.run 1 (pc1 := 58) (ls1 := [some _, some _]) (st1 := [_, _]) rfl ?_
          refine m_E.gf H1.o (by decide) rfl rfl ?_
          obtain ⟨_, h2, p2, rfl, g2, c2⟩ := c_takeTop (d := d + 3) H1.now ok1.1.1 (by show 0 < c_piled (w_now W); omega) et
          refine m_E.ov H1.now.2.1 (by decide) rfl rfl rfl (p2) ?_
          have H2 := H1.setS c2 g2
          have ok2 : Oks (c_setPile (c_setPiled (w_now W) (c_piled (w_now W) - 1)) ((c_pile (w_now W)).set (c_piled (w_now W) - 1) none)) := by obtain ⟨k1, k2, k3, k4, k5, k6, k7, k8, k9, k10, k11, k12, k13⟩ := ok.1.1; exact ⟨k1, k2, k3, k4, k5, k6, k7, (List.length_set ..).trans k8, k9, k10, k11, by show c_piled (w_now W) - 1 ≤ 6; omega, k13⟩
          refine m_E.run 1 (pc1 := 65) (ls1 := [some _, some _]) (st1 := [_, _, _]) rfl ?_
          obtain ⟨s4, s5, s6⟩ := H2.sheet hi
          obtain ⟨_, h3, p3, rfl, g3, c3⟩ := c_layDown (d := d + 1) H2.now ok2 s4 (Or.inr (by omega)) (rfl : nI way = nI way) hw
          refine m_E.on H2.now.2.2.2.2.2.2.2.1 (by decide) rfl rfl rfl (p3) ?_
          have H3 := H2.setS c3 g3
          refine m_E.run 1 (pc1 := 69) (ls1 := [some _, some _]) (st1 := [_]) rfl ?_
          refine m_E.gf H3.o (by decide) rfl rfl ?_
          refine m_E.gf H3.now.2.1 (by decide) rfl rfl ?_
          exact m_E.iret rfl ⟨rfl, H3, ok1.setS (ok.1.laid (by omega) et hw s2 s1.2.2.2.2.2.1), f1.tr ((c2.tr c3).frm (by decide) (by decide)), (c2.tr c3).1.trans l1⟩
      · skip
        refine m_E.ift (rfl) rfl ?_
        exact bad (fun z => by rw [ef] at z; cases z.1)
    · skip
      rw [out (by rw [g_in, decide_eq_true (Int32.not_lt.mp (of_decide_eq_false q2)), Bool.not_true, Bool.and_false])]
      refine m_E.run 1 (pc1 := 11) (ls1 := [some _, some _]) (st1 := [_]) rfl ?_
      exact m_E.iret rfl ⟨rfl, H, ok, Frm.rf, rfl⟩
