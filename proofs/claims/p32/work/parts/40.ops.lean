/-! the calls that write: blocks -/
def Opq (n : List Nat) (p : Nat) (F : Nat → c_Sh) (W : c_W) (h : m_Hp) (v : Int32) (o : Option c_St) : Option Value → m_Hp → Prop := fun r h2 => r = some (.int v) ∧ Hcl h2 n F (w_res W o) ∧ Okw n p (w_res W o) ∧ Frm h h2 ∧ h2.length = h.length
theorem Oks.cards {S : c_St} (ok : Oks S) {v : List Nat} (h1 : v.length = 24) (h2 : ∀ x, x ∈ v → x < 24) : Oks (c_setCards S v) := by
  obtain ⟨k1, k2, k3, k4, k5, k6, k7, k8, k9, k10, k11, k12, k13⟩ := ok
  exact ⟨h1, h2, k3, k4, k5, k6, k7, k8, k9, k10, k11, k12, k13⟩
theorem Oks.leans {S : c_St} (ok : Oks S) {v : List Int32} (h1 : v.length = 24) : Oks (c_setLeans S v) := by
  obtain ⟨k1, k2, k3, k4, k5, k6, k7, k8, k9, k10, k11, k12, k13⟩ := ok
  exact ⟨k1, k2, h1, k4, k5, k6, k7, k8, k9, k10, k11, k12, k13⟩
theorem Oks.backs {S : c_St} (ok : Oks S) {v : List Nat} (h1 : v.length = 24) (h2 : ∀ x, x ∈ v → x < 16) : Oks (c_setBacks S v) := by
  obtain ⟨k1, k2, k3, k4, k5, k6, k7, k8, k9, k10, k11, k12, k13⟩ := ok
  exact ⟨k1, k2, k3, h1, h2, k6, k7, k8, k9, k10, k11, k12, k13⟩
theorem Oks.settings {S : c_St} (ok : Oks S) {v : List Nat} (h1 : v.length = 4) (h2 : ∀ x, x ∈ v → x < 100) : Oks (c_setSettings S v) := by
  obtain ⟨k1, k2, k3, k4, k5, k6, k7, k8, k9, k10, k11, k12, k13⟩ := ok
  exact ⟨k1, k2, k3, k4, k5, h1, h2, k8, k9, k10, k11, k12, k13⟩
theorem g_mem_set {l : List Nat} {b i v : Nat} (h : ∀ x, x ∈ l → x < b) (hv : v < b) (x : Nat) (hx : x ∈ l.set i v) : x < b := by
  rcases List.mem_or_eq_of_mem_set hx with z | z
  · exact h x z
  · rw [z]; exact hv
theorem g_set_at {l : List Nat} {i v : Nat} (h : i < l.length) : (l.set i v).getD i 0 = v := by rw [List.getD_eq_getElem?_getD, List.getElem?_set_self h]; rfl
theorem g_set_off {l : List Nat} {i k v : Nat} (h : i ≠ k) : (l.set i v).getD k 0 = l.getD k 0 := by rw [List.getD_eq_getElem?_getD, List.getElem?_set_ne h, List.getD_eq_getElem?_getD]
def g_xch (l : List Nat) (i j : Nat) : List Nat := (l.set i (l.getD j 0)).set j (l.getD i 0)
theorem g_xch_len (l : List Nat) (i j : Nat) : (g_xch l i j).length = l.length := by rw [g_xch, List.length_set, List.length_set]
theorem g_xch_get {l : List Nat} {i j k : Nat} (hi : i < l.length) (hj : j < l.length) : (g_xch l i j).getD k 0 = if k = j then l.getD i 0 else if k = i then l.getD j 0 else l.getD k 0 := by
  unfold g_xch
  by_cases e : k = j
  · rw [if_pos e, e, g_set_at (by rw [List.length_set]; exact hj)]
  · rw [if_neg e, g_set_off (Ne.symm e)]
    by_cases e2 : k = i
    · rw [if_pos e2, e2, g_set_at hi]
    · rw [if_neg e2, g_set_off (Ne.symm e2)]
theorem g_xch_perm {l : List Nat} {i j : Nat} (hl : l.length = 24) (hi : i < 24) (hj : j < 24) (hp : g_perm l) : g_perm (g_xch l i j) := by
  intro v hv
  obtain ⟨a, ha, e⟩ := hp v hv
  by_cases e1 : a = i
  · refine ⟨j, hj, ?_⟩
    rw [g_xch_get (by omega) (by omega), if_pos rfl, ← e1]; exact e
  · by_cases e2 : a = j
    · refine ⟨i, hi, ?_⟩
      rw [g_xch_get (by omega) (by omega)]
      by_cases e3 : i = j
      · rw [if_pos e3, e3, ← e2]; exact e
      · rw [if_neg e3, if_pos rfl, ← e2]; exact e
    · refine ⟨a, ha, ?_⟩
      rw [g_xch_get (by omega) (by omega), if_neg e2, if_neg e1]; exact e
theorem g_xch_mem {l : List Nat} {i j : Nat} (hi : i < l.length) (hj : j < l.length) (h : ∀ x, x ∈ l → x < 24) (x : Nat) (hx : x ∈ g_xch l i j) : x < 24 :=
  g_mem_set (g_mem_set h (g_getD_lt h hj)) (g_getD_lt h hi) x hx
def c_xch (S : c_St) (i j : Nat) : c_St := c_setCards S (g_xch (c_cards S) i j)
theorem Tok.xch {n : List Nat} {p i j : Nat} {S : c_St} (t : Tok n p S) (hi : i < 24) (hj : j < 24) : Tok n p (c_xch S i j) := by
  obtain ⟨k1, k2, k3, k4, k5, k6, k7⟩ := t
  have l := k1.1
  exact ⟨k1.cards (by rw [g_xch_len]; exact l) (g_xch_mem (by omega) (by omega) k1.2.1), k2, k3, g_xch_perm l hi hj k4, k5, k6, k7⟩
def b_swap (S : c_St) (x y : Int32) : Int32 × Option c_St := if g_in 24 x = true ∧ g_in 24 y = true then (if x = y then (-5, none) else (nI ((c_cards S).getD y.toNatClampNeg 0), some (c_xch S x.toNatClampNeg y.toNatClampNeg))) else (-1, none)
theorem m_inj {a b : Nat} (ha : a < 2 ^ 31) (hb : b < 2 ^ 31) (h : nI a = nI b) : a = b := by
  have q := congrArg Int32.toInt h
  rw [nI_toInt ha, nI_toInt hb] at q
  omega
theorem o_swap {d : Nat} {n : List Nat} {p : Nat} {F : Nat → c_Sh} {W : c_W} {x y : Int32} {h : m_Hp} (H : Hcl h n F W) (ok : Okw n p W) : ∃ r h', m_Call m_P (d + 6) 40 [.ref 4, .int x, .int y] (h) r h' ∧ (Opq n p F W h (b_swap (w_now W) x y).1 (b_swap (w_now W) x y).2) r h' := by
  refine m_call_ex (tab := tX5_swap) (nL := 3) rfl rfl ?_
  refine m_E.run 1 (pc1 := 1) (ls1 := [some _, some _, some _]) (st1 := [_]) rfl ?_
  refine m_E.cv rfl rfl (c_isCell) ?_
  cases ex : g_in 24 x
  · skip
    have e : b_swap (w_now W) x y = (-1, none) := by rw [b_swap, if_neg (by rw [ex]; simp)]
    rw [e]
    refine m_E.ift (rfl) rfl ?_
    refine m_E.run 1 (pc1 := 15) (ls1 := [some _, some _, some _]) (st1 := [_]) rfl ?_
    exact m_E.iret rfl ⟨rfl, H, ok, Frm.rf, rfl⟩
  · skip
    refine m_E.iff (rfl) rfl ?_
    refine m_E.run 1 (pc1 := 8) (ls1 := [some _, some _, some _]) (st1 := [_]) rfl ?_
    refine m_E.cv rfl rfl (c_isCell) ?_
    cases ey : g_in 24 y
    · skip
      have e : b_swap (w_now W) x y = (-1, none) := by rw [b_swap, if_neg (by rw [ey]; simp)]
      rw [e]
      refine m_E.iff (rfl) rfl ?_
      refine m_E.run 1 (pc1 := 15) (ls1 := [some _, some _, some _]) (st1 := [_]) rfl ?_
      exact m_E.iret rfl ⟨rfl, H, ok, Frm.rf, rfl⟩
    · skip
      obtain ⟨i, hi, rfl⟩ := g_in_of ex (by decide)
      obtain ⟨j, hj, rfl⟩ := g_in_of ey (by decide)
      refine m_E.ift (rfl) rfl ?_
      refine m_E.run 2 (pc1 := 18) (ls1 := [some _, some _, some _]) (st1 := [_, _]) rfl ?_
      by_cases e : i = j
      · skip
        subst e
        have e : b_swap (w_now W) (nI i) (nI i) = (-5, none) := by rw [b_swap, if_pos ⟨ex, ey⟩, if_pos rfl]
        rw [e]
        refine m_E.icf ((m_neI (by omega) (by omega)).trans (decide_eq_false (fun z => z rfl))) rfl ?_
        refine m_E.run 1 (pc1 := 23) (ls1 := [some _, some _, some _]) (st1 := [_]) rfl ?_
        exact m_E.iret rfl ⟨rfl, H, ok, Frm.rf, rfl⟩
      · skip
        have ev : b_swap (w_now W) (nI i) (nI j) = (nI ((c_cards (w_now W)).getD j 0), some (c_xch (w_now W) i j)) := by rw [b_swap, if_pos ⟨ex, ey⟩, if_neg (fun z => e (m_inj (by omega) (by omega) z)), m_cl (by omega), m_cl (by omega)]
        rw [ev]
        refine m_E.ict ((m_neI (by omega) (by omega)).trans (decide_eq_true e)) rfl ?_
        refine m_E.run 1 (pc1 := 25) (ls1 := [some _, some _, some _]) (st1 := [_]) rfl ?_
        refine m_E.gf H.o (by decide) rfl rfl ?_
        refine m_E.run 1 (pc1 := 29) (ls1 := [some _, some _, some _]) (st1 := [_, _]) rfl ?_
        refine m_E.gf H.o (by decide) rfl rfl ?_
        obtain ⟨h1, p1, H1, f1, l1⟩ := c_rec (d := d) H ok
        have ok1 := ok.rec
        have lc := ok.1.1.1
        refine m_E.on H.hist.2.1 (by decide) rfl rfl rfl (p1) ?_
        refine m_E.run 1 (pc1 := 36) (ls1 := [some _, some _, some _]) (st1 := [_]) rfl ?_
        refine m_E.gf H1.o (by decide) rfl rfl ?_
        refine m_E.run 2 (pc1 := 41) (ls1 := [some _, some _, some _]) (st1 := [_, _, _]) rfl ?_
        refine m_E.on H1.now.2.1 (by decide) rfl rfl rfl (c_exchange H1.now ok1.1.1 rfl hi rfl hj) ?_
        refine m_E.mv (P := fun h2 => Hst h2 5 (c_xch (w_now W) i j) ∧ Chg 5 13 h1 h2) ⟨H1.now.s1 _, Chg.set (by omega) (by omega)⟩ (fun h2 q2 => ?_)
        have H2 := H1.setS q2.2 q2.1
        refine m_E.run 1 (pc1 := 45) (ls1 := [some _, some _, some _]) (st1 := [_]) rfl ?_
        refine m_E.gf H2.o (by decide) rfl rfl ?_
        refine m_E.gf H2.now.2.1 (by decide) rfl rfl ?_
        refine m_E.run 1 (pc1 := 52) (ls1 := [some _, some _, some _]) (st1 := [_, _]) rfl ?_
        refine m_E.cv rfl rfl (c_at H2.now.2.2.1 rfl (by rw [List.length_map]; show i < (g_xch _ i j).length; rw [g_xch_len]; exact lc.symm ▸ hi) (by rw [List.length_map]; show (g_xch (c_cards (w_now W)) i j).length < _; rw [g_xch_len, lc]; decide)) ?_
        have ev2 : ((c_cards (w_now (w_S (w_rec W) (c_xch (w_now W) i j)))).map nI).getD i 0 = nI ((c_cards (w_now W)).getD j 0) := by rw [m_mapD]; show nI ((g_xch (c_cards (w_now W)) i j).getD i 0) = _; rw [g_xch_get (by omega) (by omega), if_neg e, if_pos rfl]
        rw [ev2]
        exact m_E.iret rfl ⟨rfl, H2, ok1.setS (ok.1.xch hi hj), f1.tr (q2.2.frm (by decide) (by decide)), q2.2.1.trans l1⟩
