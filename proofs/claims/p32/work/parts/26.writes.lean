/-! writing to a state's cells -/
def Chg (lo hi : Nat) (h h1 : m_Hp) : Prop := h1.length = h.length ∧ ∀ k, (k < lo ∨ hi ≤ k) → h1[k]? = h[k]?
theorem Chg.rf {lo hi : Nat} {h : m_Hp} : Chg lo hi h h := ⟨rfl, fun _ _ => rfl⟩
theorem Chg.tr {lo hi : Nat} {h h1 h2 : m_Hp} (a : Chg lo hi h h1) (b : Chg lo hi h1 h2) : Chg lo hi h h2 := ⟨b.1.trans a.1, fun k hk => (b.2 k hk).trans (a.2 k hk)⟩
theorem Chg.wide {lo hi lo2 hi2 : Nat} {h h1 : m_Hp} (a : Chg lo hi h h1) (h1l : lo2 ≤ lo) (h2l : hi ≤ hi2) : Chg lo2 hi2 h h1 := ⟨a.1, fun k hk => a.2 k (by omega)⟩
theorem Chg.set {lo hi k : Nat} {h : m_Hp} {c : m_Cel} (h1 : lo ≤ k) (h2 : k < hi) : Chg lo hi h (h.set k c) := ⟨by rw [List.length_set], fun j hj => List.getElem?_set_ne (by omega)⟩
theorem m_set_at {h : m_Hp} {k : Nat} {c c1 : m_Cel} (hk : h[k]? = some c) : (h.set k c1)[k]? = some c1 := List.getElem?_set_self (List.getElem?_eq_some_iff.mp hk).1
theorem m_set_off {h : m_Hp} {k j : Nat} {c1 : m_Cel} (hk : k ≠ j) : (h.set k c1)[j]? = h[j]? := List.getElem?_set_ne hk
def c_setCards (S : c_St) (v : List Nat) : c_St := c_mk v (c_leans S) (c_backs S) (c_settings S) (c_pile S) (c_order S) (c_fr S) (c_dealt S) (c_piled S) (c_printed S) (c_sold S) (c_pulped S) (c_coins S)
def c_setLeans (S : c_St) (v : List Int32) : c_St := c_mk (c_cards S) v (c_backs S) (c_settings S) (c_pile S) (c_order S) (c_fr S) (c_dealt S) (c_piled S) (c_printed S) (c_sold S) (c_pulped S) (c_coins S)
def c_setBacks (S : c_St) (v : List Nat) : c_St := c_mk (c_cards S) (c_leans S) v (c_settings S) (c_pile S) (c_order S) (c_fr S) (c_dealt S) (c_piled S) (c_printed S) (c_sold S) (c_pulped S) (c_coins S)
def c_setSettings (S : c_St) (v : List Nat) : c_St := c_mk (c_cards S) (c_leans S) (c_backs S) v (c_pile S) (c_order S) (c_fr S) (c_dealt S) (c_piled S) (c_printed S) (c_sold S) (c_pulped S) (c_coins S)
def c_setPile (S : c_St) (v : List (Option Nat)) : c_St := c_mk (c_cards S) (c_leans S) (c_backs S) (c_settings S) v (c_order S) (c_fr S) (c_dealt S) (c_piled S) (c_printed S) (c_sold S) (c_pulped S) (c_coins S)
def c_setOrder (S : c_St) (v : List Nat) : c_St := c_mk (c_cards S) (c_leans S) (c_backs S) (c_settings S) (c_pile S) v (c_fr S) (c_dealt S) (c_piled S) (c_printed S) (c_sold S) (c_pulped S) (c_coins S)
def c_setPk (S : c_St) (fr : Option Nat) (dealt : Nat) : c_St := c_mk (c_cards S) (c_leans S) (c_backs S) (c_settings S) (c_pile S) (c_order S) fr dealt (c_piled S) (c_printed S) (c_sold S) (c_pulped S) (c_coins S)
def c_setNum (S : c_St) (piled printed : Nat) (sold pulped coins : Int32) : c_St := c_mk (c_cards S) (c_leans S) (c_backs S) (c_settings S) (c_pile S) (c_order S) (c_fr S) (c_dealt S) piled printed sold pulped coins
section
variable {h : m_Hp} {b : Nat} {S : c_St}
theorem Hst.s0 (hs : Hst h b S) (p q : Nat) (x y z : Int32) : Hst (h.set b (.inr (.inl (3, c_flds b (c_setNum S p q x y z))))) b (c_setNum S p q x y z) := by
  obtain ⟨h0, h1, h2, h3, h4, h5, h6, h7, h8⟩ := hs
  exact ⟨h0, m_set_at h1, by rw [m_set_off (by omega)]; exact h2, by rw [m_set_off (by omega)]; exact h3, by rw [m_set_off (by omega)]; exact h4, by rw [m_set_off (by omega)]; exact h5, by rw [m_set_off (by omega)]; exact h6, by rw [m_set_off (by omega)]; exact h7, by rw [m_set_off (by omega)]; exact h8⟩
theorem Hst.s1 (hs : Hst h b S) (v : List Nat) : Hst (h.set (b + 1) (.inl (0, v.map nI))) b (c_setCards S v) := by
  obtain ⟨h0, h1, h2, h3, h4, h5, h6, h7, h8⟩ := hs
  exact ⟨h0, by rw [m_set_off (by omega)]; exact h1, m_set_at h2, by rw [m_set_off (by omega)]; exact h3, by rw [m_set_off (by omega)]; exact h4, by rw [m_set_off (by omega)]; exact h5, by rw [m_set_off (by omega)]; exact h6, by rw [m_set_off (by omega)]; exact h7, by rw [m_set_off (by omega)]; exact h8⟩
theorem Hst.s2 (hs : Hst h b S) (v : List Int32) : Hst (h.set (b + 2) (.inl (0, v))) b (c_setLeans S v) := by
  obtain ⟨h0, h1, h2, h3, h4, h5, h6, h7, h8⟩ := hs
  exact ⟨h0, by rw [m_set_off (by omega)]; exact h1, by rw [m_set_off (by omega)]; exact h2, m_set_at h3, by rw [m_set_off (by omega)]; exact h4, by rw [m_set_off (by omega)]; exact h5, by rw [m_set_off (by omega)]; exact h6, by rw [m_set_off (by omega)]; exact h7, by rw [m_set_off (by omega)]; exact h8⟩
theorem Hst.s3 (hs : Hst h b S) (v : List Nat) : Hst (h.set (b + 3) (.inl (0, v.map nI))) b (c_setBacks S v) := by
  obtain ⟨h0, h1, h2, h3, h4, h5, h6, h7, h8⟩ := hs
  exact ⟨h0, by rw [m_set_off (by omega)]; exact h1, by rw [m_set_off (by omega)]; exact h2, by rw [m_set_off (by omega)]; exact h3, m_set_at h4, by rw [m_set_off (by omega)]; exact h5, by rw [m_set_off (by omega)]; exact h6, by rw [m_set_off (by omega)]; exact h7, by rw [m_set_off (by omega)]; exact h8⟩
theorem Hst.s4 (hs : Hst h b S) (v : List Nat) : Hst (h.set (b + 4) (.inl (0, v.map nI))) b (c_setSettings S v) := by
  obtain ⟨h0, h1, h2, h3, h4, h5, h6, h7, h8⟩ := hs
  exact ⟨h0, by rw [m_set_off (by omega)]; exact h1, by rw [m_set_off (by omega)]; exact h2, by rw [m_set_off (by omega)]; exact h3, by rw [m_set_off (by omega)]; exact h4, m_set_at h5, by rw [m_set_off (by omega)]; exact h6, by rw [m_set_off (by omega)]; exact h7, by rw [m_set_off (by omega)]; exact h8⟩
theorem Hst.s5 (hs : Hst h b S) (v : List (Option Nat)) : Hst (h.set (b + 5) (.inr (.inr (2, v)))) b (c_setPile S v) := by
  obtain ⟨h0, h1, h2, h3, h4, h5, h6, h7, h8⟩ := hs
  exact ⟨h0, by rw [m_set_off (by omega)]; exact h1, by rw [m_set_off (by omega)]; exact h2, by rw [m_set_off (by omega)]; exact h3, by rw [m_set_off (by omega)]; exact h4, by rw [m_set_off (by omega)]; exact h5, m_set_at h6, by rw [m_set_off (by omega)]; exact h7, by rw [m_set_off (by omega)]; exact h8⟩
theorem Hst.s6 (hs : Hst h b S) (fr : Option Nat) (dealt : Nat) : Hst (h.set (b + 6) (.inr (.inl (1, [.ref (b + 7), m_rf fr, .int (nI dealt)])))) b (c_setPk S fr dealt) := by
  obtain ⟨h0, h1, h2, h3, h4, h5, h6, h7, h8⟩ := hs
  exact ⟨h0, by rw [m_set_off (by omega)]; exact h1, by rw [m_set_off (by omega)]; exact h2, by rw [m_set_off (by omega)]; exact h3, by rw [m_set_off (by omega)]; exact h4, by rw [m_set_off (by omega)]; exact h5, by rw [m_set_off (by omega)]; exact h6, m_set_at h7, by rw [m_set_off (by omega)]; exact h8⟩
theorem Hst.s7 (hs : Hst h b S) (v : List Nat) : Hst (h.set (b + 7) (.inl (0, v.map nI))) b (c_setOrder S v) := by
  obtain ⟨h0, h1, h2, h3, h4, h5, h6, h7, h8⟩ := hs
  exact ⟨h0, by rw [m_set_off (by omega)]; exact h1, by rw [m_set_off (by omega)]; exact h2, by rw [m_set_off (by omega)]; exact h3, by rw [m_set_off (by omega)]; exact h4, by rw [m_set_off (by omega)]; exact h5, by rw [m_set_off (by omega)]; exact h6, by rw [m_set_off (by omega)]; exact h7, m_set_at h8⟩
theorem Hst.off {lo hi : Nat} {h1 : m_Hp} (hs : Hst h b S) (hc : Chg lo hi h h1) (hd : b + 8 ≤ lo ∨ hi ≤ b) : Hst h1 b S := by
  obtain ⟨h0, g1, h2, h3, h4, h5, h6, h7, h8⟩ := hs
  have e : ∀ k, k < 8 → h1[b + k]? = h[b + k]? := fun k hk => hc.2 (b + k) (by omega)
  exact ⟨h0, (e 0 (by omega)).trans g1, (e 1 (by omega)).trans h2, (e 2 (by omega)).trans h3, (e 3 (by omega)).trans h4, (e 4 (by omega)).trans h5, (e 5 (by omega)).trans h6, (e 6 (by omega)).trans h7, (e 7 (by omega)).trans h8⟩
/-- the same cells, the heap longer -/
theorem Hst.same {h1 : m_Hp} (hs : Hst h b S) (hc : ∀ k, k < h.length → h1[k]? = h[k]?) : Hst h1 b S := by
  obtain ⟨h0, g1, h2, h3, h4, h5, h6, h7, h8⟩ := hs
  have e : ∀ (k : Nat) (c : m_Cel), h[k]? = some c → h1[k]? = some c := fun k c hk => (hc k (List.getElem?_eq_some_iff.mp hk).1).trans hk
  exact ⟨h0, e _ _ g1, e _ _ h2, e _ _ h3, e _ _ h4, e _ _ h5, e _ _ h6, e _ _ h7, e _ _ h8⟩
end
theorem m_map_set (xs : List Nat) (j v : Nat) : (xs.map nI).set j (nI v) = (xs.set j v).map nI := (List.map_set ..).symm
theorem c_exchange {d : Nat} {b i j : Nat} {S : c_St} {x y : Int32} {h : m_Hp} (hs : Hst h b S) (ok : Oks S) (hx : x = nI i) (hi : i < 24) (hy : y = nI j) (hj : j < 24) : m_Call m_P (d + 2) 27 [.ref b, .int x, .int y] (h) (none) (h.set (b + 1) (.inl (0, (((c_cards S).set i ((c_cards S).getD j 0)).set j ((c_cards S).getD i 0)).map nI))) := by
  refine m_call_of (tab := tX3_exchange) (nL := 4) rfl rfl ?_
  subst hx hy
  obtain ⟨h0, h1, h2, h3, h4, h5, h6, h7, h8⟩ := hs
  have k1 := ok.1
  refine m_E.run 1 (pc1 := 1) (ls1 := [some _, some _, some _, none]) (st1 := [_]) rfl ?_
  refine m_E.gf h1 h0 rfl rfl ?_
  refine m_E.run 1 (pc1 := 5) (ls1 := [some _, some _, some _, none]) (st1 := [_, _]) rfl ?_
  refine m_E.cv rfl rfl (c_at h2 rfl (by rw [List.length_map]; omega) (by rw [List.length_map]; omega)) ?_
  rw [m_mapD]
  refine m_E.run 2 (pc1 := 10) (ls1 := [some _, some _, some _, some _]) (st1 := [_]) rfl ?_
  refine m_E.gf h1 h0 rfl rfl ?_
  refine m_E.run 2 (pc1 := 15) (ls1 := [some _, some _, some _, some _]) (st1 := [_, _, _]) rfl ?_
  refine m_E.gf h1 h0 rfl rfl ?_
  refine m_E.run 1 (pc1 := 19) (ls1 := [some _, some _, some _, some _]) (st1 := [_, _, _, _]) rfl ?_
  refine m_E.cv rfl rfl (c_at h2 rfl (by rw [List.length_map]; omega) (by rw [List.length_map]; omega)) ?_
  rw [m_mapD]
  refine m_E.cn rfl rfl (c_put h2 (by omega) rfl (by rw [List.length_map]; omega) (by rw [List.length_map]; omega)) ?_
  rw [m_map_set]
  refine m_E.run 1 (pc1 := 26) (ls1 := [some _, some _, some _, some _]) (st1 := [_]) rfl ?_
  refine m_E.gf (by rw [m_set_off (by omega)]; exact h1) h0 rfl rfl ?_
  refine m_E.run 2 (pc1 := 31) (ls1 := [some _, some _, some _, some _]) (st1 := [_, _, _]) rfl ?_
  refine m_E.cn rfl rfl (c_put (m_set_at h2) (by omega) rfl (by rw [List.length_map, List.length_set]; omega) (by rw [List.length_map, List.length_set]; omega)) ?_
  rw [m_map_set, List.set_set]
  exact m_E.vret rfl ⟨rfl, rfl⟩
/-- marks without one, marks with one -/
def g_clr (v m : Nat) : Nat := v &&& (15 ^^^ 2 ^ m)
def g_mset (v m : Nat) (is : Bool) : Nat := if is then g_clr v m ||| 2 ^ m else g_clr v m
theorem g_clr_ok : ∀ v, v < 16 → ∀ m, m < 4 → (nI v &&& ((nI 1 <<< (nI m &&& 31)) ^^^ (-1))) = nI (g_clr v m) ∧ (nI (g_clr v m) ||| (nI 1 <<< (nI m &&& 31))) = nI (g_mset v m true) ∧ g_mset v m true < 16 ∧ g_mset v m false < 16 := by decide +kernel
theorem c_setMark {d : Nat} {b i m : Nat} {is : Bool} {S : c_St} {x y z : Int32} {h : m_Hp} (hs : Hst h b S) (ok : Oks S) (hx : x = nI i) (hi : i < 24) (hy : y = nI m) (hm : m < 4) (hz : z = m_bI is) : m_Call m_P (d + 2) 30 [.ref b, .int x, .int y, .int z] (h) (none) (h.set (b + 3) (.inl (0, ((c_backs S).set i (g_mset ((c_backs S).getD i 0) m is)).map nI))) := by
  refine m_call_of (tab := tX3_setMark) (nL := 5) rfl rfl ?_
  subst hx hy hz
  obtain ⟨h0, h1, h2, h3, h4, h5, h6, h7, h8⟩ := hs
  obtain ⟨k1, k2, k3, k4, k5, k6, k7, k8, k9, k10, k11, k12, k13⟩ := ok
  have hlt : (c_backs S).getD i 0 < 16 := g_getD_lt k5 (by omega)
  obtain ⟨q1, q2, q3, q4⟩ := g_clr_ok _ hlt m hm
  refine m_E.run 1 (pc1 := 1) (ls1 := [some _, some _, some _, some _, none]) (st1 := [_]) rfl ?_
  refine m_E.gf h1 h0 rfl rfl ?_
  refine m_E.run 1 (pc1 := 5) (ls1 := [some _, some _, some _, some _, none]) (st1 := [_, _]) rfl ?_
  refine m_E.cv rfl rfl (c_at h4 rfl (by rw [List.length_map]; omega) (by rw [List.length_map]; omega)) ?_
  rw [m_mapD]
  refine m_E.run 7 (pc1 := 16) (ls1 := [some _, some _, some _, some _, some _]) (st1 := []) rfl ?_
  dsimp only
  rw [q1]
  refine m_E.run 1 (pc1 := 17) (ls1 := [some _, some _, some _, some _, some _]) (st1 := [_]) rfl ?_
  refine m_E.gf h1 h0 rfl rfl ?_
  refine m_E.run 2 (pc1 := 22) (ls1 := [some _, some _, some _, some _, some _]) (st1 := [_, _, _]) rfl ?_
  cases is
  · skip
    refine m_E.ift (by decide) rfl ?_
    refine m_E.run 1 (pc1 := 36) (ls1 := [some _, some _, some _, some _, some _]) (st1 := [_, _, _]) rfl ?_
    refine m_E.cn rfl rfl (c_put h4 (by omega) rfl (by rw [List.length_map]; omega) (by rw [List.length_map]; omega)) ?_
    exact m_E.vret rfl ⟨rfl, by rw [m_map_set]; rfl⟩
  refine m_E.iff (by decide) rfl ?_
  refine m_E.run 6 (pc1 := 36) (ls1 := [some _, some _, some _, some _, some _]) (st1 := [_, _, _]) rfl ?_
  dsimp only
  rw [q2]
  refine m_E.cn rfl rfl (c_put h4 (by omega) rfl (by rw [List.length_map]; omega) (by rw [List.length_map]; omega)) ?_
  rw [m_map_set]
  exact m_E.vret rfl ⟨rfl, rfl⟩
