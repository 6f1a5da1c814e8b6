/-! a pack's writes -/
section
variable {C : m_CR} {tab : m_Tab} {pc : Nat} {ls : m_Ls} {h : m_Hp} {Q : Option Value → m_Hp → Prop}
theorem m_E.lp (I : Nat → m_Ls → m_Hp → Prop) (n : Nat) (hs : ∀ i ls h, i < n → I i ls h → (∀ ls2 h2, I (i + 1) ls2 h2 → m_E C tab pc ls2 [] h2 Q) → m_E C tab pc ls [] h Q) (h0 : I 0 ls h) (k : ∀ ls h, I n ls h → m_E C tab pc ls [] h Q) : m_E C tab pc ls [] h Q := by
  have key : ∀ j i ls h, i + j = n → I i ls h → m_E C tab pc ls [] h Q := by
    intro j
    induction j with
    | zero => intro i ls h e hi; have e2 : i = n := by omega
              subst e2; exact k ls h hi
    | succ j ih => intro i ls h e hi; exact hs i ls h (by omega) hi (fun ls2 h2 g => ih (i + 1) ls2 h2 (by omega) g)
  exact key n 0 ls h (by omega) h0
end
theorem c_takeAway {d : Nat} {b : Nat} {S : c_St} {h : m_Hp} (hs : Hst h b S) : ∃ r h', m_Call m_P (d + 1) 7 [.ref (b + 6)] (h) r h' ∧ (fun r h2 => r = none ∧ Hst h2 b (c_setDealt (c_setFr S none) 0) ∧ Chg b (b + 8) h h2) r h' := by
  refine m_call_ex (tab := tX1_takeAway) (nL := 1) rfl rfl ?_
  refine m_E.run 2 (pc1 := 2) (ls1 := [some _]) (st1 := [_, _]) rfl ?_
  refine hs.pf (v := none) rfl rfl (fun h1 g1 c1 => ?_)
  refine m_E.run 2 (pc1 := 7) (ls1 := [some _]) (st1 := [_, _]) rfl ?_
  refine g1.pd (v := 0) rfl rfl (fun h2 g2 c2 => ?_)
  exact m_E.vret rfl ⟨rfl, g2, c1.tr c2⟩
/-- the row while a new order comes into it: f tells the place that a card had -/
def g_prt (f : Nat → Nat) (dealt i : Nat) (xs : List Nat) : List Nat := (List.range 24).map fun k => if dealt ≤ k ∧ k < dealt + i then xs.getD (dealt + f (k - dealt)) 0 else xs.getD k 0
theorem g_prt_len (f : Nat → Nat) (dealt i : Nat) (xs : List Nat) : (g_prt f dealt i xs).length = 24 := by rw [g_prt, List.length_map, List.length_range]
theorem g_prt_get {f : Nat → Nat} {dealt i k : Nat} {xs : List Nat} (hk : k < 24) : (g_prt f dealt i xs)[k]? = some (if dealt ≤ k ∧ k < dealt + i then xs.getD (dealt + f (k - dealt)) 0 else xs.getD k 0) := by
  rw [g_prt, List.getElem?_map, List.getElem?_range hk]; rfl
theorem g_prt0 {f : Nat → Nat} {dealt : Nat} {xs : List Nat} (hl : xs.length = 24) : g_prt f dealt 0 xs = xs := by
  apply List.ext_getElem?
  intro k
  by_cases hk : k < 24
  · rw [g_prt_get hk, if_neg (by omega), List.getD_eq_getElem?_getD, List.getElem?_eq_getElem (by omega)]; rfl
  · rw [List.getElem?_eq_none (by rw [g_prt_len]; omega), List.getElem?_eq_none (by omega)]
theorem g_prt_succ {f : Nat → Nat} {dealt i : Nat} {xs : List Nat} (hd : dealt + i < 24) : (g_prt f dealt i xs).set (dealt + i) (xs.getD (dealt + f i) 0) = g_prt f dealt (i + 1) xs := by
  apply List.ext_getElem?
  intro k
  by_cases hk : k < 24
  · by_cases e : dealt + i = k
    · subst e
      rw [List.getElem?_set_self (by rw [g_prt_len]; omega), g_prt_get hk, if_pos (by omega), Nat.add_sub_cancel_left]
    · rw [List.getElem?_set_ne e, g_prt_get hk, g_prt_get hk]
      by_cases c : dealt ≤ k ∧ k < dealt + i
      · rw [if_pos c, if_pos (by omega)]
      · rw [if_neg c, if_neg (by omega)]
  · rw [List.getElem?_eq_none (by rw [List.length_set, g_prt_len]; omega), List.getElem?_eq_none (by rw [g_prt_len]; omega)]
theorem g_prt_mem {f : Nat → Nat} {dealt i : Nat} {xs : List Nat} (hm : ∀ x, x ∈ xs → x < 24) (x : Nat) (hx : x ∈ g_prt f dealt i xs) : x < 24 := by
  rw [g_prt, List.mem_map] at hx
  obtain ⟨k, _, rfl⟩ := hx
  have key : ∀ j, xs.getD j 0 < 24 := fun j => by
    by_cases hj : j < xs.length
    · exact g_getD_lt hm hj
    · rw [List.getD_eq_getElem?_getD, List.getElem?_eq_none (by omega)]; decide
  split <;> exact key _
theorem Oks.order {S : c_St} (ok : Oks S) {v : List Nat} (h1 : v.length = 24) (h2 : ∀ x, x ∈ v → x < 24) : Oks (c_setOrder S v) := by
  obtain ⟨k1, k2, k3, k4, k5, k6, k7, k8, k9, k10, k11, k12, k13⟩ := ok
  exact ⟨k1, k2, k3, k4, k5, k6, k7, k8, h1, h2, k11, k12, k13⟩
def g_cutf (top n place : Nat) : Nat := if place + top < n then place + top else place + top - n
theorem c_cutAt {d : Nat} {b q top : Nat} {S : c_St} {x : Int32} {zs : List Int32} {h : m_Hp} (hs : Hst h b S) (ok : Oks S) (hq : h[q]? = some (.inl (0, zs))) (hz : zs.length = 24) (h3 : 3 < q) (hd : q < b ∨ b + 8 ≤ q) (hx : x = nI top) (ht : top < g_left (c_fr S) (c_dealt S)) : ∃ r h', m_Call m_P (d + 2) 13 [.ref (b + 6), .int x, .ref q] (h) r h' ∧ (fun r h2 => r = none ∧ Hst h2 b (c_setOrder S (g_prt (g_cutf top (g_left (c_fr S) (c_dealt S))) (c_dealt S) (g_left (c_fr S) (c_dealt S)) (c_order S))) ∧ Chg b (b + 8) (h.set q (.inl (0, (c_order S).map nI))) h2) r h' := by
  refine m_call_ex (tab := tX1_cutAt) (nL := 6) rfl rfl ?_
  subst hx
  have hb : 3 < b := hs.1
  have k9 := ok.2.2.2.2.2.2.2.2.1
  have k10 := ok.2.2.2.2.2.2.2.2.2.1
  have k11 := ok.2.2.2.2.2.2.2.2.2.2.1
  have hle := g_left_le (c_fr S) (c_dealt S)
  refine m_E.run 1 (pc1 := 1) (ls1 := [some _, some _, some _, none, none, none]) (st1 := [_]) rfl ?_
  refine m_E.gf hs.2.2.2.2.2.2.2.1 (by omega) rfl rfl ?_
  refine m_E.run 1 (pc1 := 5) (ls1 := [some _, some _, some _, none, none, none]) (st1 := [_, _]) rfl ?_
  refine m_E.cn rfl rfl (c_copyRow hs.2.2.2.2.2.2.2.2 hq h3 (by rw [List.length_map]; omega) (by rw [List.length_map]; omega)) ?_
  have g0 : Hst (h.set q (.inl (0, (c_order S).map nI))) b S := hs.off (Chg.set (lo := q) (hi := q + 1) (by omega) (by omega)) (by omega)
  have gq : (h.set q (.inl (0, (c_order S).map nI)))[q]? = some (.inl (0, (c_order S).map nI)) := m_set_at hq
  generalize h.set q (.inl (0, (c_order S).map nI)) = h1 at g0 gq ⊢
  have pk0 := g0.pk ok
  refine m_E.run 1 (pc1 := 9) (ls1 := [some _, some _, some _, none, none, none]) (st1 := [_]) rfl ?_
  refine m_E.ov pk0.2.1 pk0.1 rfl rfl rfl (c_left pk0) ?_
  refine m_E.run 3 (pc1 := 16) (ls1 := [some _, some _, some _, some _, some _, none]) (st1 := []) rfl ?_
  refine m_E.lp (fun i ls hh => ∃ v, ls = [some (.ref (b + 6)), some (.int (nI top)), some (.ref q), some (.int (nI (g_left (c_fr S) (c_dealt S)))), some (.int (nI i)), v] ∧ (Hst hh b (c_setOrder S (g_prt (g_cutf top (g_left (c_fr S) (c_dealt S))) (c_dealt S) i (c_order S))) ∧ Chg b (b + 8) h1 hh)) (g_left (c_fr S) (c_dealt S)) ?_ ?_ ?_
  · skip
    rintro i _ hh hi ⟨v, rfl, hI⟩ K
    obtain ⟨g1, c1⟩ := hI
    obtain ⟨hbd, k, ek⟩ := g_left_lt k11 hi
    have okp : Oks (c_setOrder S (g_prt (g_cutf top (g_left (c_fr S) (c_dealt S))) (c_dealt S) i (c_order S))) := ok.order (g_prt_len _ _ _ _) (g_prt_mem k10)
    have gq2 : hh[q]? = some (.inl (0, (c_order S).map nI)) := (c1.2 q (by omega)).trans gq
    have hlen : ((g_prt (g_cutf top (g_left (c_fr S) (c_dealt S))) (c_dealt S) i (c_order S)).map nI).length = 24 := by rw [List.length_map, g_prt_len]
    refine m_E.run 2 (pc1 := 19) (ls1 := [some _, some _, some _, some _, some _, _]) (st1 := [_, _]) rfl ?_
    refine m_E.icf (by rw [m_leI (by omega) (by omega), decide_eq_false_iff_not]; omega) rfl ?_
    refine m_E.run 4 (pc1 := 27) (ls1 := [some _, some _, some _, some _, some _, _]) (st1 := [_, _]) rfl ?_
    dsimp only
    rw [nI_add]
    have fin : ∀ old, old = g_cutf top (g_left (c_fr S) (c_dealt S)) i → m_E (m_Call m_P (d + 1)) tX1_cutAt 43 [some (.ref (b + 6)), some (.int (nI top)), some (.ref q), some (.int (nI (g_left (c_fr S) (c_dealt S)))), some (.int (nI i)), v] [.int (nI old)] hh (fun r h2 => r = none ∧ Hst h2 b (c_setOrder S (g_prt (g_cutf top (g_left (c_fr S) (c_dealt S))) (c_dealt S) (g_left (c_fr S) (c_dealt S)) (c_order S))) ∧ Chg b (b + 8) h1 h2) := by
      intro old eo
      have lo : old < g_left (c_fr S) (c_dealt S) := by rw [eo, g_cutf]; split <;> omega
      obtain ⟨hbo, _⟩ := g_left_lt k11 lo
      refine m_E.run 2 (pc1 := 46) (ls1 := [some _, some _, some _, some _, some _, some _]) (st1 := [_]) rfl ?_
      refine m_E.gf g1.2.2.2.2.2.2.2.1 (by omega) rfl rfl ?_
      refine m_E.run 1 (pc1 := 50) (ls1 := [some _, some _, some _, some _, some _, some _]) (st1 := [_, _]) rfl ?_
      refine m_E.gf g1.2.2.2.2.2.2.2.1 (by omega) rfl rfl ?_
      refine m_E.run 4 (pc1 := 58) (ls1 := [some _, some _, some _, some _, some _, some _]) (st1 := [_, _, _, _]) rfl ?_
      dsimp only
      refine m_E.gf g1.2.2.2.2.2.2.2.1 (by omega) rfl rfl ?_
      refine m_E.run 2 (pc1 := 64) (ls1 := [some _, some _, some _, some _, some _, some _]) (st1 := [_, _, _, _]) rfl ?_
      dsimp only
      change m_E _ _ _ _ (.int (nI (c_dealt S) + nI old) :: .ref q :: .int (nI (c_dealt S) + nI i) :: _) _ _
      rw [nI_add, nI_add]
      refine m_E.cv rfl rfl (c_at gq2 rfl (by rw [List.length_map]; omega) (by rw [List.length_map]; omega)) ?_
      rw [m_mapD]
      refine m_E.cn rfl rfl (c_put g1.2.2.2.2.2.2.2.2 (by omega) rfl (by rw [List.length_map, okp.2.2.2.2.2.2.2.2.1]; omega) (by rw [List.length_map, okp.2.2.2.2.2.2.2.2.1]; omega)) ?_
      rw [m_map_set]
      refine m_E.run 2 (pc1 := 16) (ls1 := [some _, some _, some _, some _, some _, some _]) (st1 := []) rfl ?_
      rw [nI_add]
      refine K _ _ ⟨_, rfl, ?_, c1.tr (Chg.set (by omega) (by omega))⟩
      have g2 := g1.s7 (g_prt (g_cutf top (g_left (c_fr S) (c_dealt S))) (c_dealt S) (i + 1) (c_order S))
      rw [← g_prt_succ (by omega), ← eo] at g2 ⊢
      exact g2
    refine m_E.ic2 rfl (fun q1 => ?_) (fun q1 => ?_)
    · skip
      rw [m_leI (by omega) (by omega), decide_eq_true_eq] at q1
      refine m_E.run 5 (pc1 := 43) (ls1 := [some _, some _, some _, some _, some _, _]) (st1 := [_]) rfl ?_
      dsimp only
      rw [nI_add, pk_sub (by omega)]
      exact fin _ (by rw [g_cutf, if_neg (by omega)])
    · skip
      rw [m_leI (by omega) (by omega), decide_eq_false_iff_not] at q1
      refine m_E.run 4 (pc1 := 43) (ls1 := [some _, some _, some _, some _, some _, _]) (st1 := [_]) rfl ?_
      dsimp only
      rw [nI_add]
      exact fin _ (by rw [g_cutf, if_pos (by omega)])
  · skip
    exact ⟨none, rfl, by rw [g_prt0 k9]; exact g0, Chg.rf⟩
  · skip
    rintro _ hh ⟨v, rfl, hI⟩
    obtain ⟨g1, c1⟩ := hI
    have okp : Oks (c_setOrder S (g_prt (g_cutf top (g_left (c_fr S) (c_dealt S))) (c_dealt S) (g_left (c_fr S) (c_dealt S)) (c_order S))) := ok.order (g_prt_len _ _ _ _) (g_prt_mem k10)
    refine m_E.run 2 (pc1 := 19) (ls1 := [some _, some _, some _, some _, some _, _]) (st1 := [_, _]) rfl ?_
    refine m_E.ict (by exact decide_eq_true (Int32.le_refl _)) rfl ?_
    exact m_E.vret rfl ⟨rfl, g1, c1⟩
theorem g_before_lt {place top cards : Nat} (ht : top ≤ cards) (hp : place < cards) : g_before place top cards < cards := by
  rw [g_before]
  split
  · split <;> omega
  · split <;> omega
theorem Hsh.off {h h1 : m_Hp} {k lo hi : Nat} {s : c_Sh} (hs : Hsh h k s) (hc : Chg lo hi h h1) (hd : k + 4 ≤ lo ∨ hi ≤ k) : Hsh h1 k s := by
  obtain ⟨h0, h1, h2, h3, h4, h5⟩ := hs
  exact ⟨h0, (hc.2 k (by omega)).trans h1, (hc.2 (k + 1) (by omega)).trans h2, (hc.2 (k + 2) (by omega)).trans h3, (hc.2 (k + 3) (by omega)).trans h4, h5⟩
theorem c_shuffleAt {d : Nat} {b q top : Nat} {S : c_St} {x : Int32} {zs : List Int32} {h : m_Hp} (hs : Hst h b S) (ok : Oks S) (hq : h[q]? = some (.inl (0, zs))) (hz : zs.length = 24) (h3 : 3 < q) (hd : q < b ∨ b + 8 ≤ q) (hx : x = nI top) (ht : top < g_left (c_fr S) (c_dealt S)) : ∃ r h', m_Call m_P (d + 2) 14 [.ref (b + 6), .int x, .ref q] (h) r h' ∧ (fun r h2 => r = some (.int (nI (g_cnt (fun j => !(g_before j top (g_left (c_fr S) (c_dealt S)) == j)) (g_left (c_fr S) (c_dealt S))))) ∧ Hst h2 b (c_setOrder S (g_prt (fun j => g_before j top (g_left (c_fr S) (c_dealt S))) (c_dealt S) (g_left (c_fr S) (c_dealt S)) (c_order S))) ∧ Chg b (b + 8) (h.set q (.inl (0, (c_order S).map nI))) h2) r h' := by
  refine m_call_ex (tab := tX1_shuffleAt) (nL := 7) rfl rfl ?_
  subst hx
  have hb : 3 < b := hs.1
  have k9 := ok.2.2.2.2.2.2.2.2.1
  have k10 := ok.2.2.2.2.2.2.2.2.2.1
  have k11 := ok.2.2.2.2.2.2.2.2.2.2.1
  have hle := g_left_le (c_fr S) (c_dealt S)
  refine m_E.run 1 (pc1 := 1) (ls1 := [some _, some _, some _, none, none, none, none]) (st1 := [_]) rfl ?_
  refine m_E.gf hs.2.2.2.2.2.2.2.1 (by omega) rfl rfl ?_
  refine m_E.run 1 (pc1 := 5) (ls1 := [some _, some _, some _, none, none, none, none]) (st1 := [_, _]) rfl ?_
  refine m_E.cn rfl rfl (c_copyRow hs.2.2.2.2.2.2.2.2 hq h3 (by rw [List.length_map]; omega) (by rw [List.length_map]; omega)) ?_
  have g0 : Hst (h.set q (.inl (0, (c_order S).map nI))) b S := hs.off (Chg.set (lo := q) (hi := q + 1) (by omega) (by omega)) (by omega)
  have gq : (h.set q (.inl (0, (c_order S).map nI)))[q]? = some (.inl (0, (c_order S).map nI)) := m_set_at hq
  generalize h.set q (.inl (0, (c_order S).map nI)) = h1 at g0 gq ⊢
  have pk0 := g0.pk ok
  refine m_E.run 1 (pc1 := 9) (ls1 := [some _, some _, some _, none, none, none, none]) (st1 := [_]) rfl ?_
  refine m_E.ov pk0.2.1 pk0.1 rfl rfl rfl (c_left pk0) ?_
  refine m_E.run 5 (pc1 := 19) (ls1 := [some _, some _, some _, some _, some _, some _, none]) (st1 := []) rfl ?_
  refine m_E.lp (fun i ls hh => ∃ v, ls = [some (.ref (b + 6)), some (.int (nI top)), some (.ref q), some (.int (nI (g_left (c_fr S) (c_dealt S)))), some (.int (nI (g_cnt (fun j => !(g_before j top (g_left (c_fr S) (c_dealt S)) == j)) i))), some (.int (nI i)), v] ∧ (Hst hh b (c_setOrder S (g_prt (fun j => g_before j top (g_left (c_fr S) (c_dealt S))) (c_dealt S) i (c_order S))) ∧ Chg b (b + 8) h1 hh)) (g_left (c_fr S) (c_dealt S)) ?_ ?_ ?_
  · skip
    rintro i _ hh hi ⟨v, rfl, hI⟩ K
    obtain ⟨g1, c1⟩ := hI
    obtain ⟨hbd, k, ek⟩ := g_left_lt k11 hi
    have okp : Oks (c_setOrder S (g_prt (fun j => g_before j top (g_left (c_fr S) (c_dealt S))) (c_dealt S) i (c_order S))) := ok.order (g_prt_len _ _ _ _) (g_prt_mem k10)
    have gq2 : hh[q]? = some (.inl (0, (c_order S).map nI)) := (c1.2 q (by omega)).trans gq
    have lo := g_before_lt (top := top) (Nat.le_of_lt ht) hi
    obtain ⟨hbo, _⟩ := g_left_lt k11 lo
    refine m_E.run 2 (pc1 := 22) (ls1 := [some _, some _, some _, some _, some _, some _, _]) (st1 := [_, _]) rfl ?_
    refine m_E.icf (by rw [m_leI (by omega) (by omega), decide_eq_false_iff_not]; omega) rfl ?_
    refine m_E.run 3 (pc1 := 29) (ls1 := [some _, some _, some _, some _, some _, some _, _]) (st1 := [_, _, _]) rfl ?_
    refine m_E.cv rfl rfl (c_placeBefore rfl rfl rfl (by omega) (by omega) (by omega)) ?_
    refine m_E.run 2 (pc1 := 35) (ls1 := [some _, some _, some _, some _, some _, some _, some _]) (st1 := [_]) rfl ?_
    refine m_E.gf g1.2.2.2.2.2.2.2.1 (by omega) rfl rfl ?_
    refine m_E.run 1 (pc1 := 39) (ls1 := [some _, some _, some _, some _, some _, some _, some _]) (st1 := [_, _]) rfl ?_
    refine m_E.gf g1.2.2.2.2.2.2.2.1 (by omega) rfl rfl ?_
    refine m_E.run 4 (pc1 := 47) (ls1 := [some _, some _, some _, some _, some _, some _, some _]) (st1 := [_, _, _, _]) rfl ?_
    dsimp only
    refine m_E.gf g1.2.2.2.2.2.2.2.1 (by omega) rfl rfl ?_
    refine m_E.run 2 (pc1 := 53) (ls1 := [some _, some _, some _, some _, some _, some _, some _]) (st1 := [_, _, _, _]) rfl ?_
    dsimp only
    change m_E _ _ _ _ (.int (nI (c_dealt S) + nI (g_before i top (g_left (c_fr S) (c_dealt S)))) :: .ref q :: .int (nI (c_dealt S) + nI i) :: _) _ _
    rw [nI_add, nI_add]
    refine m_E.cv rfl rfl (c_at gq2 rfl (by rw [List.length_map]; omega) (by rw [List.length_map]; omega)) ?_
    rw [m_mapD]
    refine m_E.cn rfl rfl (c_put g1.2.2.2.2.2.2.2.2 (by omega) rfl (by rw [List.length_map, okp.2.2.2.2.2.2.2.2.1]; omega) (by rw [List.length_map, okp.2.2.2.2.2.2.2.2.1]; omega)) ?_
    rw [m_map_set]
    have g2 := g1.s7 (g_prt (fun j => g_before j top (g_left (c_fr S) (c_dealt S))) (c_dealt S) (i + 1) (c_order S))
    rw [← g_prt_succ (by omega)] at g2
    have c2 : Chg b (b + 8) h1 (hh.set (b + 7) (.inl (0, ((c_order (c_setOrder S (g_prt (fun j => g_before j top (g_left (c_fr S) (c_dealt S))) (c_dealt S) i (c_order S)))).set (c_dealt S + i) ((c_order S).getD (c_dealt S + g_before i top (g_left (c_fr S) (c_dealt S))) 0)).map nI))) := c1.tr (Chg.set (by omega) (by omega))
    refine m_E.run 2 (pc1 := 63) (ls1 := [some _, some _, some _, some _, some _, some _, some _]) (st1 := [_, _]) rfl ?_
    refine m_E.ic2 rfl (fun q1 => ?_) (fun q1 => ?_)
    · skip
      rw [m_beqI (by omega) (by omega)] at q1
      have e : g_cnt (fun j => !(g_before j top (g_left (c_fr S) (c_dealt S)) == j)) (i + 1) = g_cnt (fun j => !(g_before j top (g_left (c_fr S) (c_dealt S)) == j)) i := by simp [g_cnt, of_decide_eq_true q1]
      refine m_E.run 2 (pc1 := 19) (ls1 := [some _, some _, some _, some _, some _, some _, some _]) (st1 := []) rfl ?_
      rw [nI_add]
      refine K _ _ ⟨some (.int (nI (g_before i top (g_left (c_fr S) (c_dealt S))))), by rw [e], ?_, c2⟩
      rw [← g_prt_succ (by omega)]; exact g2
    · skip
      rw [m_beqI (by omega) (by omega)] at q1
      have e : g_cnt (fun j => !(g_before j top (g_left (c_fr S) (c_dealt S)) == j)) (i + 1) = g_cnt (fun j => !(g_before j top (g_left (c_fr S) (c_dealt S)) == j)) i + 1 := by simp [g_cnt, of_decide_eq_false q1]
      refine m_E.run 3 (pc1 := 19) (ls1 := [some _, some _, some _, some _, some _, some _, some _]) (st1 := []) rfl ?_
      rw [nI_add, nI_add]
      refine K _ _ ⟨some (.int (nI (g_before i top (g_left (c_fr S) (c_dealt S))))), by rw [e], ?_, c2⟩
      rw [← g_prt_succ (by omega)]; exact g2
  · skip
    exact ⟨none, rfl, by rw [g_prt0 k9]; exact g0, Chg.rf⟩
  · skip
    rintro _ hh ⟨v, rfl, hI⟩
    obtain ⟨g1, c1⟩ := hI
    have okp : Oks (c_setOrder S (g_prt (fun j => g_before j top (g_left (c_fr S) (c_dealt S))) (c_dealt S) (g_left (c_fr S) (c_dealt S)) (c_order S))) := ok.order (g_prt_len _ _ _ _) (g_prt_mem k10)
    refine m_E.run 2 (pc1 := 22) (ls1 := [some _, some _, some _, some _, some _, some _, _]) (st1 := [_, _]) rfl ?_
    refine m_E.ict (by exact decide_eq_true (Int32.le_refl _)) rfl ?_
    refine m_E.run 1 (pc1 := 77) (ls1 := [some _, some _, some _, some _, some _, some _, _]) (st1 := [_]) rfl ?_
    exact m_E.iret rfl ⟨rfl, g1, c1⟩
/-- a sheet cut into a pack -/
def g_lay (cards : List Nat) (way : Nat) (i : Nat) (xs : List Nat) : List Nat := (List.range 24).map fun k => if k < i then cards.getD (g_cellAt way k) 0 else xs.getD k 0
theorem g_lay_len (cards : List Nat) (way i : Nat) (xs : List Nat) : (g_lay cards way i xs).length = 24 := by rw [g_lay, List.length_map, List.length_range]
theorem g_lay_get {cards : List Nat} {way i k : Nat} {xs : List Nat} (hk : k < 24) : (g_lay cards way i xs)[k]? = some (if k < i then cards.getD (g_cellAt way k) 0 else xs.getD k 0) := by
  rw [g_lay, List.getElem?_map, List.getElem?_range hk]; rfl
theorem g_lay0 {cards : List Nat} {way : Nat} {xs : List Nat} (hl : xs.length = 24) : g_lay cards way 0 xs = xs := by
  apply List.ext_getElem?
  intro k
  by_cases hk : k < 24
  · rw [g_lay_get hk, if_neg (by omega), List.getD_eq_getElem?_getD, List.getElem?_eq_getElem (by omega)]; rfl
  · rw [List.getElem?_eq_none (by rw [g_lay_len]; omega), List.getElem?_eq_none (by omega)]
theorem g_lay_succ {cards : List Nat} {way i : Nat} {xs : List Nat} (hd : i < 24) : (g_lay cards way i xs).set i (cards.getD (g_cellAt way i) 0) = g_lay cards way (i + 1) xs := by
  apply List.ext_getElem?
  intro k
  by_cases hk : k < 24
  · by_cases e : i = k
    · subst e
      rw [List.getElem?_set_self (by rw [g_lay_len]; omega), g_lay_get hk, if_pos (by omega)]
    · rw [List.getElem?_set_ne e, g_lay_get hk, g_lay_get hk]
      by_cases c : k < i
      · rw [if_pos c, if_pos (by omega)]
      · rw [if_neg c, if_neg (by omega)]
  · rw [List.getElem?_eq_none (by rw [List.length_set, g_lay_len]; omega), List.getElem?_eq_none (by rw [g_lay_len]; omega)]
theorem c_layDown {d : Nat} {b k way : Nat} {S : c_St} {s : c_Sh} {x : Int32} {h : m_Hp} (hs : Hst h b S) (ok : Oks S) (hsh : Hsh h k s) (hk : k + 4 ≤ b ∨ b + 8 ≤ k) (hx : x = nI way) (hw : way < 4) : ∃ r h', m_Call m_P (d + 4) 6 [.ref (b + 6), .ref k, .int x] (h) r h' ∧ (fun r h2 => r = none ∧ Hst h2 b (c_setOrder (c_setDealt (c_setFr S (some k)) 0) (g_lay s.1 way 24 (c_order S))) ∧ Chg b (b + 8) h h2) r h' := by
  refine m_call_ex (tab := tX1_layDown) (nL := 4) rfl rfl ?_
  subst hx
  have hb : 3 < b := hs.1
  have k9 := ok.2.2.2.2.2.2.2.2.1
  refine m_E.run 1 (pc1 := 1) (ls1 := [some _, some _, some _, none]) (st1 := [_]) rfl ?_
  refine m_E.run 1 (pc1 := 5) (ls1 := [some _, some _, some _, none]) (st1 := []) rfl ?_
  refine m_E.run 2 (pc1 := 7) (ls1 := [some _, some _, some _, none]) (st1 := [_, _]) rfl ?_
  refine hs.pf (v := some k) rfl rfl (fun h1 g1 c1 => ?_)
  refine m_E.run 2 (pc1 := 12) (ls1 := [some _, some _, some _, none]) (st1 := [_, _]) rfl ?_
  refine g1.pd (v := 0) rfl rfl (fun h2 g2 c2 => ?_)
  replace c1 := c1.tr c2
  have s2 := hsh.off c1 (by omega)
  refine m_E.run 2 (pc1 := 17) (ls1 := [some _, some _, some _, some _]) (st1 := []) rfl ?_
  refine m_E.lp (fun i ls hh => ls = [some (.ref (b + 6)), some (.ref k), some (.int (nI way)), some (.int (nI i))] ∧ (Hst hh b (c_setOrder (c_setDealt (c_setFr S (some k)) 0) (g_lay s.1 way i (c_order S))) ∧ Chg b (b + 8) h hh)) 24 ?_ ?_ ?_
  · skip
    rintro i _ hh hi ⟨rfl, hI⟩ K
    obtain ⟨g3, c3⟩ := hI
    have s3 := hsh.off c3 (by omega)
    refine m_E.run 2 (pc1 := 20) (ls1 := [some _, some _, some _, some _]) (st1 := [_, _]) rfl ?_
    refine m_E.icf (by rw [m_leI (by omega) (by omega), decide_eq_false_iff_not]; omega) rfl ?_
    refine m_E.run 1 (pc1 := 24) (ls1 := [some _, some _, some _, some _]) (st1 := [_]) rfl ?_
    refine m_E.gf g3.2.2.2.2.2.2.2.1 (by omega) rfl rfl ?_
    refine m_E.run 4 (pc1 := 31) (ls1 := [some _, some _, some _, some _]) (st1 := [_, _, _, _, _]) rfl ?_
    refine m_E.ov s3.2.1 s3.1 rfl rfl rfl (c_cutTo s3 rfl rfl hw hi) ?_
    refine m_E.ist g3.2.2.2.2.2.2.2.2 (by omega) rfl (by rw [List.length_map]; exact (g_lay_len s.1 way i (c_order S)).symm ▸ hi) (by rw [List.length_map]; show (g_lay s.1 way i (c_order S)).length < _; rw [g_lay_len]; decide) rfl ?_
    rw [m_map_set]
    have g4 := g3.s7 (g_lay s.1 way (i + 1) (c_order S))
    rw [← g_lay_succ hi] at g4
    refine m_E.run 2 (pc1 := 17) (ls1 := [some _, some _, some _, some _]) (st1 := []) rfl ?_
    rw [nI_add]
    refine K _ _ ⟨rfl, ?_, c3.tr (Chg.set (by omega) (by omega))⟩
    rw [← g_lay_succ hi]; exact g4
  · skip
    exact ⟨rfl, by rw [g_lay0 k9]; exact g2, c1⟩
  · skip
    rintro _ hh ⟨rfl, hI⟩
    obtain ⟨g3, c3⟩ := hI
    refine m_E.run 2 (pc1 := 20) (ls1 := [some _, some _, some _, some _]) (st1 := [_, _]) rfl ?_
    refine m_E.ict (by decide) rfl ?_
    exact m_E.vret rfl ⟨rfl, g3, c3⟩
