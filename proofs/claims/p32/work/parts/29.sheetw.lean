/-! stores and new cells, handed on by what they say; wear, the top sheet, a new sheet, printing -/
def Upd (a : Nat) (c : m_Cel) (h h2 : m_Hp) : Prop := h2.length = h.length ∧ h2[a]? = some c ∧ ∀ j, j ≠ a → h2[j]? = h[j]?
theorem Upd.of {a : Nat} {c c0 : m_Cel} {h : m_Hp} (hk : h[a]? = some c0) : Upd a c h (h.set a c) := ⟨List.length_set, m_set_at hk, fun _ hj => m_set_off (Ne.symm hj)⟩
theorem Upd.chg {a lo hi : Nat} {c : m_Cel} {h h2 : m_Hp} (u : Upd a c h h2) (h1 : lo ≤ a) (h3 : a < hi) : Chg lo hi h h2 := ⟨u.1, fun k hk => u.2.2 k (by omega)⟩
def New (c : m_Cel) (h h2 : m_Hp) : Prop := h2.length = h.length + 1 ∧ h2[h.length]? = some c ∧ ∀ j, j < h.length → h2[j]? = h[j]?
theorem New.of {c : m_Cel} {h : m_Hp} : New c h (h ++ [c]) := ⟨by rw [List.length_append]; rfl, by rw [List.getElem?_append_right (Nat.le_refl _), Nat.sub_self]; rfl, fun _ hj => List.getElem?_append_left hj⟩
section
variable {C : m_CR} {tab : m_Tab} {pc : Nat} {ls : m_Ls} {st : List Value} {h : m_Hp} {Q : Option Value → m_Hp → Prop} {b ci ty : Nat} {S : c_St}
theorem m_E.new {fs : List Value} (e1 : m_at tab pc = some (m_new ci fs)) (kk : ∀ h1, New (.inr (.inl (ci, fs))) h h1 → m_E C tab (pc + 3) ls (.ref h.length :: st) h1 Q) : m_E C tab pc ls st h Q := m_E.op e1 rfl (kk _ New.of)
theorem m_E.nar {t j : Nat} {i : Int32} (hi : i = nI j) (hj : j ≤ 100000) (e1 : m_at tab pc = some (m_nar t)) (kk : ∀ h1, New (.inl (t, List.replicate j 0)) h h1 → m_E C tab (pc + 2) ls (.ref h.length :: st) h1 Q) : m_E C tab pc ls (.int i :: st) h Q := by
  subst hi
  refine m_E.op e1 ?_ (kk _ New.of)
  unfold m_nar
  dsimp only
  rw [if_neg (by rw [m_cl (by omega)]; intro z; rcases z with z | z; exact m_cbl (by omega) z; omega), m_cl (by omega)]
theorem m_E.anar {t j : Nat} {i : Int32} (hi : i = nI j) (hj : j ≤ 100000) (e1 : m_at tab pc = some (m_anar t)) (kk : ∀ h1, New (.inr (.inr (t, List.replicate j none))) h h1 → m_E C tab (pc + 3) ls (.ref h.length :: st) h1 Q) : m_E C tab pc ls (.int i :: st) h Q := by
  subst hi
  refine m_E.op e1 ?_ (kk _ New.of)
  unfold m_anar
  dsimp only
  rw [if_neg (by rw [m_cl (by omega)]; intro z; rcases z with z | z; exact m_cbl (by omega) z; omega), m_cl (by omega)]
theorem m_E.pg {a k : Nat} {v : Value} {fs : List Value} (hh : h[a]? = some (.inr (.inl (ci, fs)))) (h3 : 3 < a) (hf : m_fit ty v = true) (hk : k < fs.length) (e1 : m_at tab pc = some (m_put ci k ty)) (kk : ∀ h1, Upd a (.inr (.inl (ci, fs.set k v))) h h1 → m_E C tab (pc + 3) ls st h1 Q) : m_E C tab pc ls (v :: .ref a :: st) h Q := m_E.put hh h3 hf hk e1 (kk _ (Upd.of hh))
theorem m_E.ig {a t j : Nat} {i x : Int32} {xs : List Int32} {f : Int32 → Int32} (hh : h[a]? = some (.inl (t, xs))) (h3 : 3 < a) (hi : i = nI j) (hj : j < xs.length) (hl : xs.length < 2 ^ 31) (e1 : m_at tab pc = some (m_ist t f)) (kk : ∀ h1, Upd a (.inl (t, xs.set j (f x))) h h1 → m_E C tab (pc + 1) ls st h1 Q) : m_E C tab pc ls (.int x :: .int i :: .ref a :: st) h Q := m_E.ist hh h3 hi hj hl e1 (kk _ (Upd.of hh))
theorem Hst.pp {j : Nat} {i : Int32} {r : Option Nat} (hs : Hst h b S) (ok : Oks S) (hi : i = nI j) (hj : j < 6) (hr : ∀ k, r = some k → 3 < k ∧ ∃ fs, h[k]? = some (.inr (.inl (2, fs)))) (e1 : m_at tab pc = some (m_ast 2 2)) (kk : ∀ h1, Hst h1 b (c_setPile S ((c_pile S).set j r)) → Chg b (b + 8) h h1 → m_E C tab (pc + 1) ls st h1 Q) : m_E C tab pc ls (m_rf r :: .int i :: .ref (b + 5) :: st) h Q := by
  have l8 := ok.2.2.2.2.2.2.2.1
  exact m_E.ast hs.2.2.2.2.2.2.1 (by have := hs.1; omega) hi (by omega) (by omega) hr e1 (kk _ (hs.s5 _) (Chg.set (by omega) (by omega)))
end
theorem m_n0 {a : Nat} (ha : a < 2 ^ 31) (h0 : 0 < a) : ¬ nI a = 0 := by
  intro z
  have q := congrArg Int32.toInt z
  rw [nI_toInt ha, show (0 : Int32).toInt = 0 from rfl] at q
  omega
def g_wear (S : c_St) : c_St := if 0 < (c_settings S).getD 0 0 ∧ c_printed S % (c_settings S).getD 0 0 = 0 then c_setBacks S ((c_backs S).set (c_printed S % 24) (g_mset ((c_backs S).getD (c_printed S % 24) 0) (c_printed S / (c_settings S).getD 0 0 % 4) true)) else S
theorem c_wear {d : Nat} {b : Nat} {S : c_St} {h : m_Hp} (hs : Hst h b S) (ok : Oks S) : ∃ r h', m_Call m_P (d + 3) 34 [.ref b] (h) r h' ∧ (fun r h2 => r = none ∧ Hst h2 b (g_wear S) ∧ Chg b (b + 8) h h2) r h' := by
  refine m_call_ex (tab := tX3_wear) (nL := 2) rfl rfl ?_
  obtain ⟨k1, k2, k3, k4, k5, k6, k7, k8, k9, k10, k11, k12, k13⟩ := id ok
  have hb : 3 < b := hs.1
  have le : (c_settings S).getD 0 0 < 100 := g_getD_lt k7 (by omega)
  refine m_E.run 1 (pc1 := 1) (ls1 := [some _, none]) (st1 := [_]) rfl ?_
  refine m_E.gf hs.2.1 hb rfl rfl ?_
  refine m_E.run 1 (pc1 := 5) (ls1 := [some _, none]) (st1 := [_, _]) rfl ?_
  refine m_E.cv rfl rfl (c_at hs.2.2.2.2.2.1 rfl (by rw [List.length_map]; omega) (by rw [List.length_map]; omega)) ?_
  rw [m_mapD]
  refine m_E.run 2 (pc1 := 10) (ls1 := [some _, some _]) (st1 := [_]) rfl ?_
  refine m_E.if2 rfl (fun q1 => ?_) (fun q1 => ?_)
  · skip
    rw [show (0 : Int32) = nI 0 from rfl, m_leI (by omega) (by omega), decide_eq_true_eq] at q1
    exact m_E.vret rfl ⟨rfl, by rw [g_wear, if_neg (by omega)]; exact hs, Chg.rf⟩
  · skip
    rw [show (0 : Int32) = nI 0 from rfl, m_leI (by omega) (by omega), decide_eq_false_iff_not] at q1
    refine m_E.run 1 (pc1 := 14) (ls1 := [some _, some _]) (st1 := [_]) rfl ?_
    refine m_E.gf hs.2.1 hb rfl rfl ?_
    refine m_E.run 1 (pc1 := 18) (ls1 := [some _, some _]) (st1 := [_, _]) rfl ?_
    refine m_E.div (m_n0 (by omega) (by omega)) rfl ?_
    change m_E _ _ _ _ (.int (nI (c_printed S) - nI (c_printed S) / nI ((c_settings S).getD 0 0) * nI ((c_settings S).getD 0 0)) :: _) _ _
    rw [m_rem (by omega) _ (by omega) (by omega)]
    refine m_E.if2 rfl (fun q2 => ?_) (fun q2 => ?_)
    · skip
      rw [m_beq0 (by have := Nat.mod_le (c_printed S) ((c_settings S).getD 0 0); omega), Bool.not_eq_true', decide_eq_false_iff_not] at q2
      exact m_E.vret rfl ⟨rfl, by rw [g_wear, if_neg (by omega)]; exact hs, Chg.rf⟩
    · skip
      rw [m_beq0 (by have := Nat.mod_le (c_printed S) ((c_settings S).getD 0 0); omega), Bool.not_eq_false', decide_eq_true_eq] at q2
      refine m_E.run 2 (pc1 := 24) (ls1 := [some _, some _]) (st1 := [_, _]) rfl ?_
      refine m_E.gf hs.2.1 hb rfl rfl ?_
      refine m_E.run 1 (pc1 := 29) (ls1 := [some _, some _]) (st1 := [_, _, _]) rfl ?_
      refine m_E.div (by decide) rfl ?_
      change m_E _ _ _ _ (.int (nI (c_printed S) - nI (c_printed S) / nI 24 * nI 24) :: _) _ _
      rw [m_rem (by omega) 24 (by decide) (by decide)]
      refine m_E.run 1 (pc1 := 31) (ls1 := [some _, some _]) (st1 := [_, _, _]) rfl ?_
      refine m_E.gf hs.2.1 hb rfl rfl ?_
      refine m_E.run 1 (pc1 := 35) (ls1 := [some _, some _]) (st1 := [_, _, _, _]) rfl ?_
      refine m_E.div (m_n0 (by omega) (by omega)) rfl ?_
      change m_E _ _ _ _ (.int (nI (c_printed S) / nI ((c_settings S).getD 0 0)) :: _) _ _
      rw [pk_div (by omega) (by omega) (by omega)]
      have hq : c_printed S / (c_settings S).getD 0 0 ≤ c_printed S := Nat.div_le_self _ _
      refine m_E.run 1 (pc1 := 37) (ls1 := [some _, some _]) (st1 := [_, _, _, _]) rfl ?_
      refine m_E.div (by decide) rfl ?_
      change m_E _ _ _ _ (.int (nI (c_printed S / (c_settings S).getD 0 0) - nI (c_printed S / (c_settings S).getD 0 0) / nI 4 * nI 4) :: _) _ _
      rw [m_rem (by omega) 4 (by decide) (by decide)]
      refine m_E.run 1 (pc1 := 39) (ls1 := [some _, some _]) (st1 := [_, _, _, _]) rfl ?_
      refine m_E.on hs.2.1 hb rfl rfl rfl (c_setMark (is := true) hs ok rfl (Nat.mod_lt _ (by decide)) rfl (Nat.mod_lt _ (by decide)) rfl) ?_
      exact m_E.vret rfl ⟨rfl, by rw [g_wear, if_pos ⟨by omega, q2⟩]; exact hs.s3 _, Chg.set (by omega) (by omega)⟩
theorem c_takeTop {d : Nat} {b k : Nat} {S : c_St} {h : m_Hp} (hs : Hst h b S) (ok : Oks S) (h0 : 0 < c_piled S) (hk : (c_pile S).getD (c_piled S - 1) none = some k) : ∃ r h', m_Call m_P (d + 2) 35 [.ref b] (h) r h' ∧ (fun r h2 => r = some (.ref k) ∧ Hst h2 b (c_setPile (c_setPiled S (c_piled S - 1)) ((c_pile S).set (c_piled S - 1) none)) ∧ Chg b (b + 8) h h2) r h' := by
  refine m_call_ex (tab := tX3_takeTopSheet) (nL := 2) rfl rfl ?_
  obtain ⟨k1, k2, k3, k4, k5, k6, k7, k8, k9, k10, k11, k12, k13⟩ := id ok
  have hb : 3 < b := hs.1
  refine m_E.run 2 (pc1 := 2) (ls1 := [some _, none]) (st1 := [_, _]) rfl ?_
  refine m_E.ov hs.2.1 hb rfl rfl rfl (c_sheetAt (j := 0) hs ok rfl h0) ?_
  rw [Nat.sub_zero, hk]
  change m_E _ _ _ _ (.ref k :: _) _ _
  refine m_E.run 2 (pc1 := 7) (ls1 := [some _, some _]) (st1 := [_]) rfl ?_
  refine m_E.run 1 (pc1 := 10) (ls1 := [some _, some _]) (st1 := []) rfl ?_
  refine m_E.run 2 (pc1 := 12) (ls1 := [some _, some _]) (st1 := [_, _]) rfl ?_
  refine m_E.gf hs.2.1 hb rfl rfl ?_
  refine m_E.run 2 (pc1 := 17) (ls1 := [some _, some _]) (st1 := [_, _]) rfl ?_
  dsimp only
  change m_E _ _ _ _ (.int (nI (c_piled S) - nI 1) :: _) _ _
  rw [pk_sub (by omega)]
  refine hs.p6 rfl rfl (fun h1 g1 c1 => ?_)
  refine m_E.run 1 (pc1 := 21) (ls1 := [some _, some _]) (st1 := [_]) rfl ?_
  refine m_E.gf g1.2.1 hb rfl rfl ?_
  refine m_E.run 1 (pc1 := 25) (ls1 := [some _, some _]) (st1 := [_, _]) rfl ?_
  refine m_E.gf g1.2.1 hb rfl rfl ?_
  refine m_E.run 1 (pc1 := 29) (ls1 := [some _, some _]) (st1 := [_, _, _]) rfl ?_
  change m_E _ _ _ _ (m_rf none :: .int (nI (c_piled S - 1)) :: .ref (b + 5) :: []) _ _
  have ok1 : Oks (c_setPiled S (c_piled S - 1)) := ⟨k1, k2, k3, k4, k5, k6, k7, k8, k9, k10, k11, by show c_piled S - 1 ≤ 6; omega, k13⟩
  refine g1.pp ok1 rfl (by omega) (fun k hk => by cases hk) rfl (fun h2 g2 c2 => ?_)
  refine m_E.run 1 (pc1 := 31) (ls1 := [some _, some _]) (st1 := [_]) rfl ?_
  exact m_E.ret rfl rfl ⟨rfl, g2, c1.tr c2⟩
def g_behind (cards backs : List Nat) (tu : Bool) : Nat → List Nat
  | 0 => List.replicate 24 0
  | n + 1 => (g_behind cards backs tu n).set (cards.getD n 0) (backs.getD (if tu then 23 - n else n) 0)
theorem g_behind_len (cards backs : List Nat) (tu : Bool) : ∀ n, (g_behind cards backs tu n).length = 24
  | 0 => List.length_replicate
  | n + 1 => by rw [g_behind, List.length_set]; exact g_behind_len cards backs tu n
theorem g_zeros (n : Nat) : List.replicate n (0 : Int32) = (List.replicate n 0).map nI := by rw [List.map_replicate]; rfl
def g_sheet (S : c_St) (tu : Bool) : c_Sh := (c_cards S, g_behind (c_cards S) (c_backs S) tu 24, c_leans S)
def g_perm (l : List Nat) : Prop := ∀ v, v < 24 → ∃ j, j < 24 ∧ l.getD j 0 = v
/-- a row while it is copied into a new one -/
def g_cp (xs : List Nat) (i : Nat) : List Nat := (List.range 24).map fun k => if k < i then xs.getD k 0 else 0
theorem g_cp_len (xs : List Nat) (i : Nat) : (g_cp xs i).length = 24 := by rw [g_cp, List.length_map, List.length_range]
theorem g_cp_get {xs : List Nat} {i k : Nat} (hk : k < 24) : (g_cp xs i)[k]? = some (if k < i then xs.getD k 0 else 0) := by
  rw [g_cp, List.getElem?_map, List.getElem?_range hk]; rfl
theorem g_cp0 (xs : List Nat) : g_cp xs 0 = List.replicate 24 0 := by
  apply List.ext_getElem?
  intro k
  by_cases hk : k < 24
  · rw [g_cp_get hk, if_neg (Nat.not_lt_zero k), List.getElem?_replicate, if_pos hk]
  · rw [List.getElem?_eq_none (by rw [g_cp_len]; omega), List.getElem?_eq_none (by rw [List.length_replicate]; omega)]
theorem g_cp_all {xs : List Nat} (hl : xs.length = 24) : g_cp xs 24 = xs := by
  apply List.ext_getElem?
  intro k
  by_cases hk : k < 24
  · rw [g_cp_get hk, if_pos hk, List.getD_eq_getElem?_getD, List.getElem?_eq_getElem (by omega)]; rfl
  · rw [List.getElem?_eq_none (by rw [g_cp_len]; omega), List.getElem?_eq_none (by omega)]
theorem g_cp_succ {xs : List Nat} {i : Nat} (hi : i < 24) : (g_cp xs i).set i (xs.getD i 0) = g_cp xs (i + 1) := by
  apply List.ext_getElem?
  intro k
  by_cases hk : k < 24
  · by_cases e : i = k
    · subst e
      rw [List.getElem?_set_self (by rw [g_cp_len]; omega), g_cp_get hk, if_pos (by omega)]
    · rw [List.getElem?_set_ne e, g_cp_get hk, g_cp_get hk]
      by_cases c : k < i
      · rw [if_pos c, if_pos (by omega)]
      · rw [if_neg c, if_neg (by omega)]
  · rw [List.getElem?_eq_none (by rw [List.length_set, g_cp_len]; omega), List.getElem?_eq_none (by rw [g_cp_len]; omega)]
/-- the leans while they are copied card by card -/
def g_lb (cards : List Nat) (leans : List Int32) : Nat → List Int32
  | 0 => List.replicate 24 0
  | n + 1 => (g_lb cards leans n).set (cards.getD n 0) (leans.getD (cards.getD n 0) 0)
theorem g_lb_len (cards : List Nat) (leans : List Int32) : ∀ n, (g_lb cards leans n).length = 24
  | 0 => List.length_replicate
  | n + 1 => by rw [g_lb, List.length_set]; exact g_lb_len cards leans n
theorem g_lb_at {cards : List Nat} {leans : List Int32} {v : Nat} (hv : v < 24) : ∀ n, (∃ j, j < n ∧ cards.getD j 0 = v) → (g_lb cards leans n)[v]? = some (leans.getD v 0)
  | 0, ⟨j, hj, _⟩ => absurd hj (Nat.not_lt_zero j)
  | n + 1, ⟨j, hj, ej⟩ => by
    rw [g_lb]
    by_cases e : cards.getD n 0 = v
    · rw [e, List.getElem?_set_self (by rw [g_lb_len]; exact hv)]
    · rw [List.getElem?_set_ne e]
      refine g_lb_at hv n ⟨j, ?_, ej⟩
      rcases Nat.lt_or_eq_of_le (Nat.le_of_lt_succ hj) with z | z
      · exact z
      · exact absurd (by rw [← z]; exact ej) e
theorem g_lb_all {cards : List Nat} {leans : List Int32} (hl : leans.length = 24) (pm : g_perm cards) : g_lb cards leans 24 = leans := by
  apply List.ext_getElem?
  intro k
  by_cases hk : k < 24
  · rw [g_lb_at hk 24 (pm k hk), List.getD_eq_getElem?_getD, List.getElem?_eq_getElem (by omega)]; rfl
  · rw [List.getElem?_eq_none (by rw [g_lb_len]; omega), List.getElem?_eq_none (by omega)]
/-- a new sheet while its rows are filled: the heap h stands below it -/
def Shm (h : m_Hp) (k : Nat) (S : c_St) (tu : Bool) (i : Nat) (hh : m_Hp) : Prop := hh.length = k + 4 ∧ hh[k]? = some (.inr (.inl (2, [.ref (k + 1), .ref (k + 2), .ref (k + 3)]))) ∧ hh[k + 1]? = some (.inl (0, (g_cp (c_cards S) i).map nI)) ∧ hh[k + 2]? = some (.inl (0, (g_behind (c_cards S) (c_backs S) tu i).map nI)) ∧ hh[k + 3]? = some (.inl (0, g_lb (c_cards S) (c_leans S) i)) ∧ ∀ j, j < k → hh[j]? = h[j]?
theorem Hst.below {h hh : m_Hp} {b k : Nat} {S : c_St} (hs : Hst h b S) (hk : b + 8 ≤ k) (s : ∀ j, j < k → hh[j]? = h[j]?) : Hst hh b S :=
  ⟨hs.1, (s _ (by omega)).trans hs.2.1, (s _ (by omega)).trans hs.2.2.1, (s _ (by omega)).trans hs.2.2.2.1, (s _ (by omega)).trans hs.2.2.2.2.1, (s _ (by omega)).trans hs.2.2.2.2.2.1, (s _ (by omega)).trans hs.2.2.2.2.2.2.1, (s _ (by omega)).trans hs.2.2.2.2.2.2.2.1, (s _ (by omega)).trans hs.2.2.2.2.2.2.2.2⟩
theorem c_sheetNew {d : Nat} {b k : Nat} {tu : Bool} {S : c_St} {x : Int32} {h : m_Hp} (hs : Hst h b S) (ok : Oks S) (hk : b + 8 ≤ k) (hl : h.length = k + 1) (ho : h[k]? = some (.inr (.inl (2, [.null, .null, .null])))) (hx : x = m_bI tu) (pm : g_perm (c_cards S)) : ∃ r h', m_Call m_P (d + 2) 22 [.ref k, .ref (b + 1), .ref (b + 2), .ref (b + 3), .int x] (h) r h' ∧ (fun r h2 => r = none ∧ h2.length = k + 4 ∧ (∀ j, j < k → h2[j]? = h[j]?) ∧ Hsh h2 k (g_sheet S tu)) r h' := by
  refine m_call_ex (tab := tX2_init) (nL := 7) rfl rfl ?_
  subst hx
  obtain ⟨k1, k2, k3, k4, k5, k6, k7, k8, k9, k10, k11, k12, k13⟩ := id ok
  have hb : 3 < b := hs.1
  refine m_E.run 4 (pc1 := 7) (ls1 := [some _, some _, some _, some _, some _, none, none]) (st1 := [_, _]) rfl ?_
  refine m_E.nar (j := 24) rfl (by decide) rfl (fun h1 n1 => ?_)
  unfold New at n1
  rw [hl] at n1 ⊢
  refine m_E.pg ((n1.2.2 k (by omega)).trans ho) (by omega) rfl (Nat.le_of_ble_eq_true rfl) rfl (fun h2 u2 => ?_)
  have l2 : h2.length = k + 2 := by rw [u2.1, n1.1]
  refine m_E.run 2 (pc1 := 15) (ls1 := [some _, some _, some _, some _, some _, none, none]) (st1 := [_, _]) rfl ?_
  refine m_E.nar (j := 24) rfl (by decide) rfl (fun h3 n3 => ?_)
  unfold New at n3
  rw [l2] at n3 ⊢
  refine m_E.pg ((n3.2.2 k (by omega)).trans u2.2.1) (by omega) rfl (Nat.le_of_ble_eq_true rfl) rfl (fun h4 u4 => ?_)
  have l4 : h4.length = k + 3 := by rw [u4.1, n3.1]
  refine m_E.run 2 (pc1 := 23) (ls1 := [some _, some _, some _, some _, some _, none, none]) (st1 := [_, _]) rfl ?_
  refine m_E.nar (j := 24) rfl (by decide) rfl (fun h5 n5 => ?_)
  unfold New at n5
  rw [l4] at n5 ⊢
  refine m_E.pg ((n5.2.2 k (by omega)).trans u4.2.1) (by omega) rfl (Nat.le_of_ble_eq_true rfl) rfl (fun h6 u6 => ?_)
  have l6 : h6.length = k + 4 := by rw [u6.1, n5.1]
  have o6 : h6[k]? = some (.inr (.inl (2, [.ref (k + 1), .ref (k + 2), .ref (k + 3)]))) := u6.2.1
  have r1 : h6[k + 1]? = some (.inl (0, (List.replicate 24 0).map nI)) := by rw [u6.2.2 _ (by omega), n5.2.2 _ (by omega), u4.2.2 _ (by omega), n3.2.2 _ (by omega), u2.2.2 _ (by omega), ← g_zeros]; exact n1.2.1
  have r2 : h6[k + 2]? = some (.inl (0, (List.replicate 24 0).map nI)) := by rw [u6.2.2 _ (by omega), n5.2.2 _ (by omega), u4.2.2 _ (by omega), ← g_zeros]; exact n3.2.1
  have r3 : h6[k + 3]? = some (.inl (0, List.replicate 24 0)) := by rw [u6.2.2 _ (by omega)]; exact n5.2.1
  have s6 : ∀ j, j < k → h6[j]? = h[j]? := fun j hj => by rw [u6.2.2 _ (by omega), n5.2.2 _ (by omega), u4.2.2 _ (by omega), n3.2.2 _ (by omega), u2.2.2 _ (by omega), n1.2.2 _ (by omega)]
  clear u6 n5 u4 n3 u2 n1
  refine m_E.run 2 (pc1 := 31) (ls1 := [some _, some _, some _, some _, some _, some _, none]) (st1 := []) rfl ?_
  refine m_E.lp (fun i ls hh => ∃ v, ls = [some (.ref k), some (.ref (b + 1)), some (.ref (b + 2)), some (.ref (b + 3)), some (.int (m_bI tu)), some (.int (nI i)), v] ∧ (Shm h k S tu i hh)) 24 ?_ ?_ ?_
  · skip
    rintro i _ hh hi ⟨v, rfl, hI⟩ K
    obtain ⟨i0, i1, i2, i3, i4, i5⟩ := hI
    have g9 := hs.below hk i5
    refine m_E.run 2 (pc1 := 35) (ls1 := [some _, some _, some _, some _, some _, some _, _]) (st1 := [_, _]) rfl ?_
    refine m_E.icf (by rw [m_leI (by omega) (by omega), decide_eq_false_iff_not]; omega) rfl ?_
    refine m_E.run 2 (pc1 := 41) (ls1 := [some _, some _, some _, some _, some _, some _, _]) (st1 := [_, _]) rfl ?_
    refine m_E.cv rfl rfl (c_at g9.2.2.1 rfl (by rw [List.length_map]; omega) (by rw [List.length_map]; omega)) ?_
    rw [m_mapD]
    have hc : (c_cards S).getD i 0 < 24 := g_getD_lt k2 (by omega)
    refine m_E.run 2 (pc1 := 47) (ls1 := [some _, some _, some _, some _, some _, some _, some _]) (st1 := [_]) rfl ?_
    refine m_E.gf i1 (by omega) rfl rfl ?_
    refine m_E.run 2 (pc1 := 54) (ls1 := [some _, some _, some _, some _, some _, some _, some _]) (st1 := [_, _, _]) rfl ?_
    refine m_E.ig i2 (by omega) rfl (by rw [List.length_map, g_cp_len]; exact hi) (by rw [List.length_map, g_cp_len]; decide) rfl (fun h9 u9 => ?_)
    have e9 : h9[k + 1]? = some (.inl (0, (g_cp (c_cards S) (i + 1)).map nI)) := by rw [← g_cp_succ hi, ← m_map_set]; exact u9.2.1
    have g10 := hs.below hk (fun j hj => (u9.2.2 j (by omega)).trans (i5 j hj))
    refine m_E.run 1 (pc1 := 57) (ls1 := [some _, some _, some _, some _, some _, some _, some _]) (st1 := [_]) rfl ?_
    refine m_E.cv rfl rfl (c_isCard) ?_
    refine m_E.iff (by rw [g_in_yes hc (by decide)]; decide) rfl ?_
    refine m_E.run 1 (pc1 := 64) (ls1 := [some _, some _, some _, some _, some _, some _, some _]) (st1 := [_]) rfl ?_
    refine m_E.gf ((u9.2.2 k (by omega)).trans i1) (by omega) rfl rfl ?_
    refine m_E.run 3 (pc1 := 72) (ls1 := [some _, some _, some _, some _, some _, some _, some _]) (st1 := [_, _, _, _]) rfl ?_
    refine m_E.cv rfl rfl (c_at g10.2.2.2.1 rfl (by omega) (by omega)) ?_
    refine m_E.ig ((u9.2.2 (k + 3) (by omega)).trans i4) (by omega) rfl (by rw [g_lb_len]; exact hc) (by rw [g_lb_len]; decide) rfl (fun h10 u10 => ?_)
    have g11 := hs.below hk (fun j hj => (u10.2.2 j (by omega)).trans ((u9.2.2 j (by omega)).trans (i5 j hj)))
    refine m_E.run 1 (pc1 := 77) (ls1 := [some _, some _, some _, some _, some _, some _, some _]) (st1 := [_]) rfl ?_
    refine m_E.gf ((u10.2.2 k (by omega)).trans ((u9.2.2 k (by omega)).trans i1)) (by omega) rfl rfl ?_
    refine m_E.run 3 (pc1 := 85) (ls1 := [some _, some _, some _, some _, some _, some _, some _]) (st1 := [_, _, _, _]) rfl ?_
    have fin : ∀ w, w = (if tu then 23 - i else i) → m_E (m_Call m_P (d + 1)) tX2_init 98 [some (.ref k), some (.ref (b + 1)), some (.ref (b + 2)), some (.ref (b + 3)), some (.int (m_bI tu)), some (.int (nI i)), some (.int (nI ((c_cards S).getD i 0)))] [.int (nI w), .ref (b + 3), .int (nI ((c_cards S).getD i 0)), .ref (k + 2)] h10 (fun r h2 => r = none ∧ h2.length = k + 4 ∧ (∀ j, j < k → h2[j]? = h[j]?) ∧ Hsh h2 k (g_sheet S tu)) := by
      intro w ew
      have lw : w < 24 := by rw [ew]; split <;> omega
      refine m_E.cv rfl rfl (c_at g11.2.2.2.2.1 rfl (by rw [List.length_map]; omega) (by rw [List.length_map]; omega)) ?_
      rw [m_mapD]
      refine m_E.ig ((u10.2.2 (k + 2) (by omega)).trans ((u9.2.2 (k + 2) (by omega)).trans i3)) (by omega) rfl (by rw [List.length_map, g_behind_len]; exact hc) (by rw [List.length_map, g_behind_len]; decide) rfl (fun h11 u11 => ?_)
      have e11 : h11[k + 2]? = some (.inl (0, (g_behind (c_cards S) (c_backs S) tu (i + 1)).map nI)) := by rw [g_behind, ← ew, ← m_map_set]; exact u11.2.1
      refine m_E.run 2 (pc1 := 31) (ls1 := [some _, some _, some _, some _, some _, some _, some _]) (st1 := []) rfl ?_
      rw [nI_add]
      refine K _ _ ⟨some (.int (nI ((c_cards S).getD i 0))), rfl, by rw [u11.1, u10.1, u9.1, i0], ?_, ?_, e11, ?_, fun j hj => ?_⟩
      · exact (u11.2.2 k (by omega)).trans ((u10.2.2 k (by omega)).trans ((u9.2.2 k (by omega)).trans i1))
      · exact (u11.2.2 (k + 1) (by omega)).trans ((u10.2.2 (k + 1) (by omega)).trans e9)
      · exact (u11.2.2 (k + 3) (by omega)).trans u10.2.1
      · exact (u11.2.2 j (by omega)).trans ((u10.2.2 j (by omega)).trans ((u9.2.2 j (by omega)).trans (i5 j hj)))
    cases tu with
    | true =>
      refine m_E.iff (by decide) rfl ?_
      refine m_E.run 4 (pc1 := 98) (ls1 := [some _, some _, some _, some _, some _, some _, some _]) (st1 := [_, _, _, _]) rfl ?_
      dsimp only
      rw [pk_sub (by omega)]
      exact fin _ rfl
    | false =>
      refine m_E.ift (by decide) rfl ?_
      refine m_E.run 1 (pc1 := 98) (ls1 := [some _, some _, some _, some _, some _, some _, some _]) (st1 := [_, _, _, _]) rfl ?_
      exact fin _ rfl
  · skip
    exact ⟨none, rfl, l6, o6, by rw [g_cp0]; exact r1, r2, r3, s6⟩
  · skip
    rintro _ hh ⟨v, rfl, hI⟩
    obtain ⟨i0, i1, i2, i3, i4, i5⟩ := hI
    rw [g_cp_all k1] at i2
    rw [g_lb_all k3 pm] at i4
    refine m_E.run 2 (pc1 := 35) (ls1 := [some _, some _, some _, some _, some _, some _, _]) (st1 := [_, _]) rfl ?_
    refine m_E.ict (by decide) rfl ?_
    refine m_E.vret rfl ⟨rfl, i0, i5, ?_⟩
    unfold Hsh g_sheet
    dsimp only
    exact ⟨by omega, i1, i2, i3, i4, k1, g_behind_len _ _ _ _, k3⟩
