/-! the calls that write: the pack -/
theorem m_rng2 {y : Int32} {l m : Nat} (hm : m < 100) (h1 : ¬ y < nI l) (h2 : ¬ nI m ≤ y) (hl : l < 100) : ∃ v, y = nI v ∧ l ≤ v ∧ v < m := by
  rw [Int32.lt_iff_toInt_lt, nI_toInt (by omega)] at h1
  rw [Int32.le_iff_toInt_le, nI_toInt (by omega)] at h2
  refine ⟨y.toInt.toNat, ?_, by omega, by omega⟩
  apply Int32.toInt_inj.mp
  rw [nI_toInt (by omega)]; omega
theorem m_ge {l v : Nat} (hl : l < 100) (hv : v < 100) : (nI v < nI l) ↔ v < l := by
  rw [Int32.lt_iff_toInt_lt, nI_toInt (by omega), nI_toInt (by omega)]; omega
theorem m_le' {l v : Nat} (hl : l < 100) (hv : v < 100) : (nI v ≤ nI l) ↔ v ≤ l := by
  rw [Int32.le_iff_toInt_le, nI_toInt (by omega), nI_toInt (by omega)]; omega
/-- what a new order does to the rest of the pack -/
theorem g_prt_perm {f : Nat → Nat} {dealt n : Nat} {xs : List Nat} (hl : dealt + n = 24) (hs : ∀ a, a < n → ∃ q, q < n ∧ f q = a) (hp : g_perm xs) : g_perm (g_prt f dealt n xs) := by
  intro v hv
  obtain ⟨j, hj, e⟩ := hp v hv
  have gd : ∀ k, k < 24 → (g_prt f dealt n xs).getD k 0 = if dealt ≤ k ∧ k < dealt + n then xs.getD (dealt + f (k - dealt)) 0 else xs.getD k 0 := fun k hk => by rw [List.getD_eq_getElem?_getD, g_prt_get hk]; rfl
  by_cases hd : j < dealt
  · exact ⟨j, hj, by rw [gd j hj, if_neg (by omega)]; exact e⟩
  · obtain ⟨q, hq, eq⟩ := hs (j - dealt) (by omega)
    refine ⟨dealt + q, by omega, ?_⟩
    rw [gd _ (by omega), if_pos (by omega), Nat.add_sub_cancel_left, eq, show dealt + (j - dealt) = j by omega]
    exact e
theorem g_cutf_onto {top n : Nat} (h : top < n) (a : Nat) (ha : a < n) : ∃ q, q < n ∧ g_cutf top n q = a := by
  by_cases c : top ≤ a
  · exact ⟨a - top, by omega, by rw [g_cutf, if_pos (by omega)]; omega⟩
  · exact ⟨a + n - top, by omega, by rw [g_cutf, if_neg (by omega)]; omega⟩
theorem g_before_onto {top n : Nat} (h : top < n) (a : Nat) (ha : a < n) : ∃ q, q < n ∧ g_before q top n = a := by
  by_cases c1 : a < min top (n - top)
  · exact ⟨2 * a, by omega, by rw [g_before, if_pos (by omega), if_pos (by omega)]; omega⟩
  · by_cases c2 : top ≤ a ∧ a - top < min top (n - top)
    · exact ⟨2 * (a - top) + 1, by omega, by rw [g_before, if_pos (by omega), if_neg (by omega)]; omega⟩
    · by_cases c3 : min top (n - top) < top
      · exact ⟨a + min top (n - top), by omega, by rw [g_before, if_neg (by omega), if_pos c3]; omega⟩
      · exact ⟨a, ha, by rw [g_before, if_neg (by omega), if_neg c3]⟩
theorem Tok.order {n : List Nat} {p : Nat} {S : c_St} (t : Tok n p S) {v : List Nat} (h1 : v.length = 24) (h2 : ∀ x, x ∈ v → x < 24) (h3 : c_fr S ≠ none → g_perm v) : Tok n p (c_setOrder S v) := by
  obtain ⟨k1, k2, k3, k4, k5, k6, k7⟩ := t
  exact ⟨k1.order h1 h2, k2, k3, k4, h3, k6, k7⟩
theorem Tok.dealt {n : List Nat} {p : Nat} {S : c_St} (t : Tok n p S) {v : Nat} (h1 : v ≤ 24) (h2 : c_fr S ≠ none) : Tok n p (c_setDealt S v) := by
  obtain ⟨⟨k1, k2, k3, k4, k5, k6, k7, k8, k9, k10, k11, k12, k13⟩, l2, l3, l4, l5, l6, l7⟩ := t
  exact ⟨⟨k1, k2, k3, k4, k5, k6, k7, k8, k9, k10, h1, k12, k13⟩, l2, l3, l4, l5, fun z => absurd z h2, l7⟩
def c_away (S : c_St) : c_St := c_setDealt (c_setFr S none) 0
theorem Tok.away {n : List Nat} {p : Nat} {S : c_St} (t : Tok n p S) : Tok n p (c_away S) := by
  obtain ⟨⟨k1, k2, k3, k4, k5, k6, k7, k8, k9, k10, k11, k12, k13⟩, l2, l3, l4, l5, l6, l7⟩ := t
  exact ⟨⟨k1, k2, k3, k4, k5, k6, k7, k8, k9, k10, Nat.zero_le _, k12, k13⟩, l2, ⟨l3.1, l3.2.1, fun k z => by cases z⟩, l4, fun z => absurd rfl z, fun _ => rfl, l7⟩
theorem Tok.coins {n : List Nat} {p : Nat} {S : c_St} (t : Tok n p S) (v : Int32) : Tok n p (c_setCoins S v) := t
theorem Tok.sold {n : List Nat} {p : Nat} {S : c_St} (t : Tok n p S) (v : Int32) : Tok n p (c_setSold S v) := t
theorem Tok.pulped {n : List Nat} {p : Nat} {S : c_St} (t : Tok n p S) (v : Int32) : Tok n p (c_setPulped S v) := t
def c_lf (S : c_St) : Nat := g_left (c_fr S) (c_dealt S)
theorem c_lf_eq {n : List Nat} {p : Nat} {S : c_St} (t : Tok n p S) (h : c_fr S ≠ none) : c_dealt S + c_lf S = 24 := by
  have l := t.1.2.2.2.2.2.2.2.2.2.2.1
  rw [c_lf]
  cases e : c_fr S with
  | none => exact absurd e h
  | some k => rw [g_left]; omega
def c_prt (S : c_St) (f : Nat → Nat) : c_St := c_setOrder S (g_prt f (c_dealt S) (c_lf S) (c_order S))
theorem Tok.prt {n : List Nat} {p : Nat} {S : c_St} (t : Tok n p S) {f : Nat → Nat} (hf : c_fr S ≠ none) (hs : ∀ a, a < c_lf S → ∃ q, q < c_lf S ∧ f q = a) : Tok n p (c_prt S f) :=
  t.order (g_prt_len _ _ _ _) (g_prt_mem t.1.2.2.2.2.2.2.2.2.2.1) (fun _ => g_prt_perm (c_lf_eq t hf) hs (t.2.2.2.2.1 hf))
def b_cutp (S : c_St) (x : Int32) : Int32 × Option c_St := if c_fr S = none then (-4, none) else if x < nI 1 ∨ nI (c_lf S) ≤ x then (-2, none) else (nI ((c_order (c_prt S (g_cutf x.toNatClampNeg (c_lf S)))).getD (c_dealt S) 0), some (c_prt S (g_cutf x.toNatClampNeg (c_lf S))))
def b_shuf (S : c_St) (x : Int32) : Int32 × Option c_St := if c_fr S = none then (-4, none) else if x < nI 1 ∨ nI (c_lf S) ≤ x then (-2, none) else (nI (g_cnt (fun j => !(g_before j x.toNatClampNeg (c_lf S) == j)) (c_lf S)), some (c_prt S (fun j => g_before j x.toNatClampNeg (c_lf S))))
def b_deal (S : c_St) (x : Int32) : Int32 × Option c_St := if c_fr S = none then (-4, none) else if x < nI 1 ∨ ¬ x ≤ nI (c_lf S) then (-2, none) else (nI (c_lf S - x.toNatClampNeg), some (c_setDealt S (c_dealt S + x.toNatClampNeg)))
theorem Hcl.spareSet {h h1 : m_Hp} {n : List Nat} {F : Nat → c_Sh} {W : c_W} {zs : List Int32} (H : Hcl h n F W) (u : Upd 60 (.inl (0, zs)) h h1) (hz : zs.length = 24) : Hcl h1 n F W := by
  obtain ⟨⟨a0, a1, a2⟩, a4, a5, a6, a7, a8, a9, a10⟩ := H
  have c : Chg 60 61 h h1 := u.chg (by omega) (by omega)
  exact ⟨⟨(c.2 _ (by omega)).trans a0, (c.2 _ (by omega)).trans a1, (c.2 _ (by omega)).trans a2⟩, (c.2 _ (by omega)).trans a4, a5.off c (by omega), a6.off c (by omega), a7.off c (by omega), a8.off c (by omega), ⟨zs, u.2.1, hz⟩, a10.off c (by omega)⟩
theorem o_cutPack {d : Nat} {n : List Nat} {p : Nat} {F : Nat → c_Sh} {W : c_W} {x : Int32} {h : m_Hp} (H : Hcl h n F W) (ok : Okw n p W) : ∃ r h', m_Call m_P (d + 6) 46 [.ref 4, .int x] (h) r h' ∧ (Opq n p F W h (b_cutp (w_now W) x).1 (b_cutp (w_now W) x).2) r h' := by
  refine m_call_ex (tab := tX5_cutPack) (nL := 3) rfl rfl ?_
  have hpk := H.now.pk ok.1.1
  have hlf : c_lf (w_now W) ≤ 24 := g_left_le _ _
  refine m_E.run 1 (pc1 := 1) (ls1 := [some _, some _, none]) (st1 := [_]) rfl ?_
  refine m_E.gf H.o (by decide) rfl rfl ?_
  refine m_E.gf H.now.2.1 (by decide) rfl rfl ?_
  refine m_E.run 2 (pc1 := 9) (ls1 := [some _, some _, some _]) (st1 := [_]) rfl ?_
  refine m_E.ov hpk.2.1 hpk.1 rfl rfl rfl (c_isThere hpk) ?_
  by_cases ef : c_fr (w_now W) = none
  · skip
    have e : b_cutp (w_now W) x = (-4, none) := by rw [b_cutp, if_pos ef]
    rw [e, ef]
    refine m_E.iff (rfl) rfl ?_
    refine m_E.run 1 (pc1 := 17) (ls1 := [some _, some _, some _]) (st1 := [_]) rfl ?_
    exact m_E.iret rfl ⟨rfl, H, ok, Frm.rf, rfl⟩
  · skip
    have ei : (c_fr (w_now W)).isSome = true := by cases e : c_fr (w_now W) with | none => exact absurd e ef | some k => rfl
    rw [ei]
    refine m_E.ift (rfl) rfl ?_
    refine m_E.run 2 (pc1 := 20) (ls1 := [some _, some _, some _]) (st1 := [_, _]) rfl ?_
    refine m_E.ov hpk.2.1 hpk.1 rfl rfl rfl (c_hasParts hpk) ?_
    change m_E _ _ _ _ (.int (m_bI (!decide (x < nI 1) && !decide (nI (c_lf (w_now W)) ≤ x))) :: _) _ _
    by_cases ex : x < nI 1 ∨ nI (c_lf (w_now W)) ≤ x
    · skip
      have e : b_cutp (w_now W) x = (-2, none) := by rw [b_cutp, if_neg ef, if_pos ex]
      have eb : (!decide (x < nI 1) && !decide (nI (c_lf (w_now W)) ≤ x)) = false := by rcases ex with z | z <;> simp [z]
      rw [e, eb]
      refine m_E.iff (rfl) rfl ?_
      refine m_E.run 1 (pc1 := 28) (ls1 := [some _, some _, some _]) (st1 := [_]) rfl ?_
      exact m_E.iret rfl ⟨rfl, H, ok, Frm.rf, rfl⟩
    · skip
      obtain ⟨top, rfl, t1, t2⟩ := m_rng2 (show c_lf (w_now W) < 100 by omega) (fun z => ex (Or.inl z)) (fun z => ex (Or.inr z)) (by decide)
      have e : b_cutp (w_now W) (nI top) = (nI ((c_order (c_prt (w_now W) (g_cutf top (c_lf (w_now W))))).getD (c_dealt (w_now W)) 0), some (c_prt (w_now W) (g_cutf top (c_lf (w_now W))))) := by rw [b_cutp, if_neg ef, if_neg ex, m_cl (by omega)]
      have eb : (!decide (nI top < nI 1) && !decide (nI (c_lf (w_now W)) ≤ nI top)) = true := by rw [decide_eq_false (fun z => ex (Or.inl z)), decide_eq_false (fun z => ex (Or.inr z))]; rfl
      rw [e, eb]
      refine m_E.ift (rfl) rfl ?_
      refine m_E.run 1 (pc1 := 30) (ls1 := [some _, some _, some _]) (st1 := [_]) rfl ?_
      refine m_E.gf H.o (by decide) rfl rfl ?_
      refine m_E.run 1 (pc1 := 34) (ls1 := [some _, some _, some _]) (st1 := [_, _]) rfl ?_
      refine m_E.gf H.o (by decide) rfl rfl ?_
      obtain ⟨h1, p1, H1, f1, l1⟩ := c_rec (d := d) H ok
      have ok1 := ok.rec
      refine m_E.on H.hist.2.1 (by decide) rfl rfl rfl (p1) ?_
      refine m_E.run 3 (pc1 := 43) (ls1 := [some _, some _, some _]) (st1 := [_, _, _]) rfl ?_
      refine m_E.gf H1.o (by decide) rfl rfl ?_
      obtain ⟨zs, z1, z2⟩ := H1.spare
      obtain ⟨_, h2, p2, rfl, q1, q2⟩ := c_cutAt (d := d + 3) H1.now ok1.1.1 z1 z2 (by decide) (by decide) (rfl : nI top = nI top) t2
      have H1b := H1.spareSet (zs := (c_order (w_now W)).map nI) (Upd.of z1) (by rw [List.length_map]; exact ok.1.1.2.2.2.2.2.2.2.2.1)
      have H2 := H1b.setS q2 q1
      have t3 : Tok n p (c_prt (w_now W) (g_cutf top (c_lf (w_now W)))) := ok.1.prt ef (g_cutf_onto t2)
      have pk2 := H2.now.pk t3.1
      refine m_E.on H1.now.2.2.2.2.2.2.2.1 (by decide) rfl rfl rfl (p2) ?_
      refine m_E.run 2 (pc1 := 51) (ls1 := [some _, some _, some _]) (st1 := [_, _]) rfl ?_
      refine m_E.ov pk2.2.1 pk2.1 rfl rfl rfl (c_cardAt (place := 0) pk2 rfl (by have := c_lf_eq ok.1 ef; show c_dealt (w_now W) + 0 < 24; omega)) ?_
      exact m_E.iret rfl ⟨rfl, H2, ok1.setS t3, f1.tr (((Upd.of z1).chg (lo := 60) (hi := 61) (by decide) (by decide)).frm (by decide) (by decide) |>.tr (q2.frm (by decide) (by decide))), by rw [q2.1, List.length_set, l1]⟩
theorem o_shuffle {d : Nat} {n : List Nat} {p : Nat} {F : Nat → c_Sh} {W : c_W} {x : Int32} {h : m_Hp} (H : Hcl h n F W) (ok : Okw n p W) : ∃ r h', m_Call m_P (d + 6) 47 [.ref 4, .int x] (h) r h' ∧ (Opq n p F W h (b_shuf (w_now W) x).1 (b_shuf (w_now W) x).2) r h' := by
  refine m_call_ex (tab := tX5_shuffle) (nL := 3) rfl rfl ?_
  have hpk := H.now.pk ok.1.1
  have hlf : c_lf (w_now W) ≤ 24 := g_left_le _ _
  refine m_E.run 1 (pc1 := 1) (ls1 := [some _, some _, none]) (st1 := [_]) rfl ?_
  refine m_E.gf H.o (by decide) rfl rfl ?_
  refine m_E.gf H.now.2.1 (by decide) rfl rfl ?_
  refine m_E.run 2 (pc1 := 9) (ls1 := [some _, some _, some _]) (st1 := [_]) rfl ?_
  refine m_E.ov hpk.2.1 hpk.1 rfl rfl rfl (c_isThere hpk) ?_
  by_cases ef : c_fr (w_now W) = none
  · skip
    have e : b_shuf (w_now W) x = (-4, none) := by rw [b_shuf, if_pos ef]
    rw [e, ef]
    refine m_E.iff (rfl) rfl ?_
    refine m_E.run 1 (pc1 := 17) (ls1 := [some _, some _, some _]) (st1 := [_]) rfl ?_
    exact m_E.iret rfl ⟨rfl, H, ok, Frm.rf, rfl⟩
  · skip
    have ei : (c_fr (w_now W)).isSome = true := by cases e : c_fr (w_now W) with | none => exact absurd e ef | some k => rfl
    rw [ei]
    refine m_E.ift (rfl) rfl ?_
    refine m_E.run 2 (pc1 := 20) (ls1 := [some _, some _, some _]) (st1 := [_, _]) rfl ?_
    refine m_E.ov hpk.2.1 hpk.1 rfl rfl rfl (c_hasParts hpk) ?_
    change m_E _ _ _ _ (.int (m_bI (!decide (x < nI 1) && !decide (nI (c_lf (w_now W)) ≤ x))) :: _) _ _
    by_cases ex : x < nI 1 ∨ nI (c_lf (w_now W)) ≤ x
    · skip
      have e : b_shuf (w_now W) x = (-2, none) := by rw [b_shuf, if_neg ef, if_pos ex]
      have eb : (!decide (x < nI 1) && !decide (nI (c_lf (w_now W)) ≤ x)) = false := by rcases ex with z | z <;> simp [z]
      rw [e, eb]
      refine m_E.iff (rfl) rfl ?_
      refine m_E.run 1 (pc1 := 28) (ls1 := [some _, some _, some _]) (st1 := [_]) rfl ?_
      exact m_E.iret rfl ⟨rfl, H, ok, Frm.rf, rfl⟩
    · skip
      obtain ⟨top, rfl, t1, t2⟩ := m_rng2 (show c_lf (w_now W) < 100 by omega) (fun z => ex (Or.inl z)) (fun z => ex (Or.inr z)) (by decide)
      have e : b_shuf (w_now W) (nI top) = (nI (g_cnt (fun j => !(g_before j top (c_lf (w_now W)) == j)) (c_lf (w_now W))), some (c_prt (w_now W) (fun j => g_before j top (c_lf (w_now W))))) := by rw [b_shuf, if_neg ef, if_neg ex, m_cl (by omega)]
      have eb : (!decide (nI top < nI 1) && !decide (nI (c_lf (w_now W)) ≤ nI top)) = true := by rw [decide_eq_false (fun z => ex (Or.inl z)), decide_eq_false (fun z => ex (Or.inr z))]; rfl
      rw [e, eb]
      refine m_E.ift (rfl) rfl ?_
      refine m_E.run 1 (pc1 := 30) (ls1 := [some _, some _, some _]) (st1 := [_]) rfl ?_
      refine m_E.gf H.o (by decide) rfl rfl ?_
      refine m_E.run 1 (pc1 := 34) (ls1 := [some _, some _, some _]) (st1 := [_, _]) rfl ?_
      refine m_E.gf H.o (by decide) rfl rfl ?_
      obtain ⟨h1, p1, H1, f1, l1⟩ := c_rec (d := d) H ok
      have ok1 := ok.rec
      refine m_E.on H.hist.2.1 (by decide) rfl rfl rfl (p1) ?_
      refine m_E.run 3 (pc1 := 43) (ls1 := [some _, some _, some _]) (st1 := [_, _, _]) rfl ?_
      refine m_E.gf H1.o (by decide) rfl rfl ?_
      obtain ⟨zs, z1, z2⟩ := H1.spare
      obtain ⟨_, h2, p2, rfl, q1, q2⟩ := c_shuffleAt (d := d + 3) H1.now ok1.1.1 z1 z2 (by decide) (by decide) (rfl : nI top = nI top) t2
      have H1b := H1.spareSet (zs := (c_order (w_now W)).map nI) (Upd.of z1) (by rw [List.length_map]; exact ok.1.1.2.2.2.2.2.2.2.2.1)
      have H2 := H1b.setS q2 q1
      have t3 : Tok n p (c_prt (w_now W) (fun j => g_before j top (c_lf (w_now W)))) := ok.1.prt ef (g_before_onto t2)
      refine m_E.ov H1.now.2.2.2.2.2.2.2.1 (by decide) rfl rfl rfl (p2) ?_
      exact m_E.iret rfl ⟨rfl, H2, ok1.setS t3, f1.tr (((Upd.of z1).chg (lo := 60) (hi := 61) (by decide) (by decide)).frm (by decide) (by decide) |>.tr (q2.frm (by decide) (by decide))), by rw [q2.1, List.length_set, l1]⟩
theorem o_deal {d : Nat} {n : List Nat} {p : Nat} {F : Nat → c_Sh} {W : c_W} {x : Int32} {h : m_Hp} (H : Hcl h n F W) (ok : Okw n p W) : ∃ r h', m_Call m_P (d + 6) 48 [.ref 4, .int x] (h) r h' ∧ (Opq n p F W h (b_deal (w_now W) x).1 (b_deal (w_now W) x).2) r h' := by
  refine m_call_ex (tab := tX5_deal) (nL := 3) rfl rfl ?_
  have hpk := H.now.pk ok.1.1
  have hlf : c_lf (w_now W) ≤ 24 := g_left_le _ _
  refine m_E.run 1 (pc1 := 1) (ls1 := [some _, some _, none]) (st1 := [_]) rfl ?_
  refine m_E.gf H.o (by decide) rfl rfl ?_
  refine m_E.gf H.now.2.1 (by decide) rfl rfl ?_
  refine m_E.run 2 (pc1 := 9) (ls1 := [some _, some _, some _]) (st1 := [_]) rfl ?_
  refine m_E.ov hpk.2.1 hpk.1 rfl rfl rfl (c_isThere hpk) ?_
  by_cases ef : c_fr (w_now W) = none
  · skip
    have e : b_deal (w_now W) x = (-4, none) := by rw [b_deal, if_pos ef]
    rw [e, ef]
    refine m_E.iff (rfl) rfl ?_
    refine m_E.run 1 (pc1 := 17) (ls1 := [some _, some _, some _]) (st1 := [_]) rfl ?_
    exact m_E.iret rfl ⟨rfl, H, ok, Frm.rf, rfl⟩
  · skip
    have ei : (c_fr (w_now W)).isSome = true := by cases e : c_fr (w_now W) with | none => exact absurd e ef | some k => rfl
    rw [ei]
    refine m_E.ift (rfl) rfl ?_
    refine m_E.run 2 (pc1 := 20) (ls1 := [some _, some _, some _]) (st1 := [_, _]) rfl ?_
    have bad : (x < nI 1 ∨ ¬ x ≤ nI (c_lf (w_now W))) → m_E (m_Call m_P (d + 5)) tX5_deal 31 [some (.ref 4), some (.int x), some (.ref 11)] [] h (Opq n p F W h (b_deal (w_now W) x).1 (b_deal (w_now W) x).2) := by
      intro hb
      have e : b_deal (w_now W) x = (-2, none) := by rw [b_deal, if_neg ef, if_pos hb]
      rw [e]
      refine m_E.run 1 (pc1 := 33) (ls1 := [some _, some _, some _]) (st1 := [_]) rfl ?_
      exact m_E.iret rfl ⟨rfl, H, ok, Frm.rf, rfl⟩
    refine m_E.ic2 rfl (fun q1 => ?_) (fun q1 => ?_)
    · skip
      exact bad (Or.inl (of_decide_eq_true q1))
    · skip
      refine m_E.run 2 (pc1 := 25) (ls1 := [some _, some _, some _]) (st1 := [_, _]) rfl ?_
      refine m_E.ov hpk.2.1 hpk.1 rfl rfl rfl (c_left hpk) ?_
      change m_E _ _ _ _ (.int (nI (c_lf (w_now W))) :: _) _ _
      refine m_E.ic2 rfl (fun q2 => ?_) (fun q2 => ?_)
      · skip
        have ex : ¬ (x < nI 1 ∨ ¬ x ≤ nI (c_lf (w_now W))) := fun z => by rcases z with z | z; exact of_decide_eq_false q1 z; exact z (of_decide_eq_true q2)
        obtain ⟨top, rfl, t1, t2⟩ := m_rng (show c_lf (w_now W) < 100 by omega) (of_decide_eq_false q1) (of_decide_eq_true q2) (by decide)
        have e : b_deal (w_now W) (nI top) = (nI (c_lf (w_now W) - top), some (c_setDealt (w_now W) (c_dealt (w_now W) + top))) := by rw [b_deal, if_neg ef, if_neg ex, m_cl (by omega)]
        rw [e]
        refine m_E.run 1 (pc1 := 35) (ls1 := [some _, some _, some _]) (st1 := [_]) rfl ?_
        refine m_E.gf H.o (by decide) rfl rfl ?_
        refine m_E.run 1 (pc1 := 39) (ls1 := [some _, some _, some _]) (st1 := [_, _]) rfl ?_
        refine m_E.gf H.o (by decide) rfl rfl ?_
        obtain ⟨h1, p1, H1, f1, l1⟩ := c_rec (d := d) H ok
        have ok1 := ok.rec
        refine m_E.on H.hist.2.1 (by decide) rfl rfl rfl (p1) ?_
        refine m_E.run 2 (pc1 := 47) (ls1 := [some _, some _, some _]) (st1 := [_, _]) rfl ?_
        refine m_E.gf H1.now.2.2.2.2.2.2.2.1 (by decide) rfl rfl ?_
        refine m_E.run 2 (pc1 := 52) (ls1 := [some _, some _, some _]) (st1 := [_, _]) rfl ?_
        dsimp only
        change m_E _ _ _ _ (.int (nI (c_dealt (w_now W)) + nI top) :: .ref (5 + 6) :: _) _ _
        rw [nI_add]
        refine H1.now.pd rfl rfl (fun h2 g2 c2 => ?_)
        have H2 := H1.setS c2 g2
        have hq := c_lf_eq ok.1 ef
        have t3 : Tok n p (c_setDealt (w_now W) (c_dealt (w_now W) + top)) := ok.1.dealt (by omega) ef
        have pk2 := H2.now.pk t3.1
        refine m_E.run 1 (pc1 := 56) (ls1 := [some _, some _, some _]) (st1 := [_]) rfl ?_
        refine m_E.ov pk2.2.1 pk2.1 rfl rfl rfl (c_left pk2) ?_
        exact m_E.iret rfl ⟨by show some (Value.int (nI (g_left (c_fr (w_now W)) (c_dealt (w_now W) + top)))) = _; cases e : c_fr (w_now W) with | none => exact absurd e ef | some k => rw [g_left, show 24 - (c_dealt (w_now W) + top) = c_lf (w_now W) - top by omega], H2, ok1.setS t3, f1.tr (c2.frm (by decide) (by decide)), c2.1.trans l1⟩
      · skip
        exact bad (Or.inr (of_decide_eq_false q2))
