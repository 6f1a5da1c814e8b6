/-! what a pack and a sheet are upon the plain heap; the pack's reads -/
theorem m_E.gf {C : m_CR} {tab : m_Tab} {pc : Nat} {ls : m_Ls} {st : List Value} {h : m_Hp} {Q : Option Value → m_Hp → Prop} {a ci k : Nat} {v : Value} {fs : List Value} (hh : h[a]? = some (.inr (.inl (ci, fs)))) (h3 : 3 < a) (hv : fs[k]? = some v) (e1 : m_at tab pc = some (m_get ci k)) (kk : m_E C tab (pc + 3) ls (v :: st) h Q) : m_E C tab pc ls (.ref a :: st) h Q := by
  refine m_E.get ?_ e1 kk
  unfold m_fld
  rw [hh]
  dsimp only
  rw [hv]
  have q : Nat.blt 3 a = true := by rw [Nat.blt_eq]; exact h3
  rw [q, Nat.beq_refl]
  rfl
theorem m_E.ov {C : m_CR} {tab : m_Tab} {pc : Nat} {ls : m_Ls} {st : List Value} {h h1 : m_Hp} {Q : Option Value → m_Hp → Prop} {a ci n z : Nat} {v : Value} {rest fs : List Value} (hh : h[a]? = some (.inr (.inl (ci, fs)))) (h3 : 3 < a) (hd : st.drop n = .ref a :: rest) (hs : (Nat.ble (m_cs rest) 8 && (st.take n).all m_c1) = true) (e1 : m_at tab pc = some (m_cob z n ci)) (hc : C z (.ref a :: (st.take n).reverse) h (some v) h1) (kk : m_E C tab (pc + 3) ls (v :: rest) h1 Q) : m_E C tab pc ls st h Q := by
  refine m_E.cv e1 ?_ hc kk
  unfold m_cob
  rw [hd]
  dsimp only
  rw [hh]
  rw [Bool.and_eq_true] at hs
  have q : Nat.blt 3 a = true := by rw [Nat.blt_eq]; exact h3
  simp only [q, Nat.beq_refl, hs.1, hs.2]
  rfl
theorem m_E.on {C : m_CR} {tab : m_Tab} {pc : Nat} {ls : m_Ls} {st : List Value} {h h1 : m_Hp} {Q : Option Value → m_Hp → Prop} {a ci n z : Nat} {rest fs : List Value} (hh : h[a]? = some (.inr (.inl (ci, fs)))) (h3 : 3 < a) (hd : st.drop n = .ref a :: rest) (hs : (Nat.ble (m_cs rest) 8 && (st.take n).all m_c1) = true) (e1 : m_at tab pc = some (m_cob z n ci)) (hc : C z (.ref a :: (st.take n).reverse) h none h1) (kk : m_E C tab (pc + 3) ls rest h1 Q) : m_E C tab pc ls st h Q := by
  refine m_E.cn e1 ?_ hc kk
  unfold m_cob
  rw [hd]
  dsimp only
  rw [hh]
  rw [Bool.and_eq_true] at hs
  have q : Nat.blt 3 a = true := by rw [Nat.blt_eq]; exact h3
  simp only [q, Nat.beq_refl, hs.1, hs.2]
  rfl
theorem m_mapD (xs : List Nat) (j : Nat) : (xs.map nI).getD j 0 = nI (xs.getD j 0) := by
  rw [List.getD_eq_getElem?_getD, List.getElem?_map, List.getD_eq_getElem?_getD]
  cases xs[j]? <;> rfl
def g_cnt (p : Nat → Bool) : Nat → Nat
  | 0 => 0
  | n + 1 => g_cnt p n + (if p n = true then 1 else 0)
theorem g_cnt_le (p : Nat → Bool) : ∀ n, g_cnt p n ≤ n
  | 0 => Nat.le_refl _
  | n + 1 => by
    have := g_cnt_le p n
    rw [g_cnt]
    split <;> omega
theorem g_cnt_congr {p q : Nat → Bool} : ∀ {n : Nat}, (∀ k, k < n → p k = q k) → g_cnt p n = g_cnt q n
  | 0, _ => rfl
  | n + 1, h => by rw [g_cnt, g_cnt, g_cnt_congr (fun k hk => h k (by omega)), h n (by omega)]
def g_fold (p : Nat → Bool) (c : Nat → Nat) (low : Nat) : Nat → Nat
  | 0 => low
  | n + 1 => if p n = true then min (g_fold p c low n) (c n) else g_fold p c low n
abbrev c_Sh : Type := List Nat × List Nat × List Int32
/-- a sheet: its cards by cells, the marks behind each card, the lean of each card -/
def Hsh (h : m_Hp) (k : Nat) (s : c_Sh) : Prop := 3 < k ∧ h[k]? = some (.inr (.inl (2, [.ref (k + 1), .ref (k + 2), .ref (k + 3)]))) ∧ h[k + 1]? = some (.inl (0, s.1.map nI)) ∧ h[k + 2]? = some (.inl (0, s.2.1.map nI)) ∧ h[k + 3]? = some (.inl (0, s.2.2)) ∧ s.1.length = 24 ∧ s.2.1.length = 24 ∧ s.2.2.length = 24
/-- a pack -/
def Hpk (h : m_Hp) (p o : Nat) (order : List Nat) (fr : Option Nat) (dealt : Nat) : Prop := 3 < p ∧ h[p]? = some (.inr (.inl (1, [.ref o, m_rf fr, .int (nI dealt)]))) ∧ h[o]? = some (.inl (0, order.map nI)) ∧ order.length = 24 ∧ dealt ≤ 24 ∧ ∀ x, x ∈ order → x < 24
def g_left (fr : Option Nat) (dealt : Nat) : Nat := match fr with
  | none => 0
  | some _ => 24 - dealt
theorem g_left_le (fr : Option Nat) (dealt : Nat) : g_left fr dealt ≤ 24 := by cases fr <;> simp [g_left]
theorem g_left_lt {fr : Option Nat} {dealt place : Nat} (hd : dealt ≤ 24) (h : place < g_left fr dealt) : dealt + place < 24 ∧ ∃ k, fr = some k := by
  cases fr with
  | none => simp [g_left] at h
  | some k => simp only [g_left] at h; exact ⟨by omega, k, rfl⟩
theorem g_getD_lt {xs : List Nat} {j n : Nat} (h : ∀ x, x ∈ xs → x < n) (hj : j < xs.length) : xs.getD j 0 < n := by
  rw [List.getD_eq_getElem?_getD, List.getElem?_eq_getElem hj]
  exact h _ (List.getElem_mem hj)
theorem c_isThere {d : Nat} {p o dealt : Nat} {order : List Nat} {fr : Option Nat} {h : m_Hp} (hp : Hpk h p o order fr dealt) : m_Call m_P (d + 1) 8 [.ref p] (h) (some (.int (m_bI fr.isSome))) (h) := by
  refine m_call_of (tab := tX1_isThere) (nL := 1) rfl rfl ?_
  obtain ⟨p1, p2, p3, p4, p5, p6⟩ := hp
  refine m_E.run 1 (pc1 := 1) (ls1 := [some _]) (st1 := [_]) rfl ?_
  refine m_E.gf p2 p1 rfl rfl ?_
  cases fr
  · skip
    refine m_E.run 2 (pc1 := 12) (ls1 := [some _]) (st1 := [_]) rfl ?_
    exact m_E.zret (by decide) rfl ⟨rfl, rfl⟩
  · refine m_E.run 3 (pc1 := 12) (ls1 := [some _]) (st1 := [_]) rfl ?_
    exact m_E.zret (by decide) rfl ⟨rfl, rfl⟩
theorem c_left {d : Nat} {p o dealt : Nat} {order : List Nat} {fr : Option Nat} {h : m_Hp} (hp : Hpk h p o order fr dealt) : m_Call m_P (d + 1) 9 [.ref p] (h) (some (.int (nI (g_left fr dealt)))) (h) := by
  refine m_call_of (tab := tX1_left) (nL := 1) rfl rfl ?_
  obtain ⟨p1, p2, p3, p4, p5, p6⟩ := hp
  refine m_E.run 1 (pc1 := 1) (ls1 := [some _]) (st1 := [_]) rfl ?_
  refine m_E.gf p2 p1 rfl rfl ?_
  cases fr
  · skip
    refine m_E.run 3 (pc1 := 18) (ls1 := [some _]) (st1 := [_]) rfl ?_
    exact m_E.iret rfl ⟨rfl, rfl⟩
  refine m_E.run 3 (pc1 := 14) (ls1 := [some _]) (st1 := [_, _]) rfl ?_
  refine m_E.gf p2 p1 rfl rfl ?_
  refine m_E.run 1 (pc1 := 18) (ls1 := [some _]) (st1 := [_]) rfl ?_
  dsimp only
  rw [pk_sub p5]
  exact m_E.iret rfl ⟨rfl, rfl⟩
theorem c_hasParts {d : Nat} {p o dealt : Nat} {order : List Nat} {fr : Option Nat} {x : Int32} {h : m_Hp} (hp : Hpk h p o order fr dealt) : m_Call m_P (d + 2) 10 [.ref p, .int x] (h) (some (.int (m_bI (!decide (x < nI 1) && !decide (nI (g_left fr dealt) ≤ x))))) (h) := by
  refine m_call_of (tab := tX1_hasPartsAt) (nL := 2) rfl rfl ?_
  refine m_E.run 2 (pc1 := 2) (ls1 := [some _, some _]) (st1 := [_, _]) rfl ?_
  refine m_E.ic2 rfl (fun h1 => ?_) (fun h1 => ?_)
  · skip
    rw [h1]
    refine m_E.run 1 (pc1 := 18) (ls1 := [some _, some _]) (st1 := [_]) rfl ?_
    exact m_E.zret (by decide) rfl ⟨rfl, rfl⟩
  · skip
    rw [h1]
    refine m_E.run 2 (pc1 := 7) (ls1 := [some _, some _]) (st1 := [_, _]) rfl ?_
    refine m_E.ov hp.2.1 hp.1 rfl rfl rfl (c_left hp) ?_
    refine m_E.ic2 rfl (fun h2 => ?_) (fun h2 => ?_)
    · skip
      rw [h2]
      refine m_E.run 1 (pc1 := 18) (ls1 := [some _, some _]) (st1 := [_]) rfl ?_
      exact m_E.zret (by decide) rfl ⟨rfl, rfl⟩
    · skip
      rw [h2]
      refine m_E.run 2 (pc1 := 18) (ls1 := [some _, some _]) (st1 := [_]) rfl ?_
      exact m_E.zret (by decide) rfl ⟨rfl, rfl⟩
theorem c_cardAt {d : Nat} {p o dealt place : Nat} {order : List Nat} {fr : Option Nat} {x : Int32} {h : m_Hp} (hp : Hpk h p o order fr dealt) (hx : x = nI place) (hl : dealt + place < 24) : m_Call m_P (d + 2) 11 [.ref p, .int x] (h) (some (.int (nI (order.getD (dealt + place) 0)))) (h) := by
  refine m_call_of (tab := tX1_cardAt) (nL := 2) rfl rfl ?_
  subst hx
  obtain ⟨p1, p2, p3, p4, p5, p6⟩ := hp
  refine m_E.run 1 (pc1 := 1) (ls1 := [some _, some _]) (st1 := [_]) rfl ?_
  refine m_E.gf p2 p1 rfl rfl ?_
  refine m_E.run 1 (pc1 := 5) (ls1 := [some _, some _]) (st1 := [_, _]) rfl ?_
  refine m_E.gf p2 p1 rfl rfl ?_
  refine m_E.run 2 (pc1 := 10) (ls1 := [some _, some _]) (st1 := [_, _]) rfl ?_
  dsimp only
  rw [nI_add]
  refine m_E.cv rfl rfl (c_at p3 rfl (by rw [List.length_map]; omega) (by rw [List.length_map]; omega)) ?_
  rw [m_mapD]
  exact m_E.iret rfl ⟨rfl, rfl⟩
theorem c_placeOf {d : Nat} {p o dealt card : Nat} {order : List Nat} {fr : Option Nat} {x : Int32} {h : m_Hp} (hp : Hpk h p o order fr dealt) (hx : x = nI card) (hc : card < 24) (r : Int32) (hr : (∃ j, j < g_left fr dealt ∧ order.getD (dealt + j) 0 = card ∧ (∀ k, k < j → order.getD (dealt + k) 0 ≠ card) ∧ r = nI j) ∨ ((∀ k, k < g_left fr dealt → order.getD (dealt + k) 0 ≠ card) ∧ r = -5)) : m_Call m_P (d + 3) 12 [.ref p, .int x] (h) (some (.int r)) (h) := by
  refine m_call_of (tab := tX1_placeOf) (nL := 4) rfl rfl ?_
  subst hx
  refine m_E.run 1 (pc1 := 1) (ls1 := [some _, some _, none, none]) (st1 := [_]) rfl ?_
  refine m_E.ov hp.2.1 hp.1 rfl rfl rfl (c_left hp) ?_
  refine m_E.run 3 (pc1 := 7) (ls1 := [some _, some _, some _, some _]) (st1 := []) rfl ?_
  refine m_E.up (fun i => (7, [some (.ref p), some (.int (nI card)), some (.int (nI (g_left fr dealt))), some (.int (nI i))], [], h)) (g_left fr dealt) (fun i => (∀ k, k < i → order.getD (dealt + k) 0 ≠ card)) (fun i hi hI K => ?_) ?_ (fun hI => ?_)
  · skip
    show m_E _ _ 7 [some (.ref p), some (.int (nI card)), some (.int (nI (g_left fr dealt))), some (.int (nI i))] [] (h) _
    have hb := g_left_lt hp.2.2.2.2.1 hi
    refine m_E.run 2 (pc1 := 9) (ls1 := [some _, some _, some _, some _]) (st1 := [_, _]) rfl ?_
    refine m_E.icf (by rw [m_leI (by have := g_left_le fr dealt; omega) (by have := g_left_le fr dealt; omega), decide_eq_false_iff_not]; omega) rfl ?_
    refine m_E.run 2 (pc1 := 14) (ls1 := [some _, some _, some _, some _]) (st1 := [_, _]) rfl ?_
    refine m_E.ov hp.2.1 hp.1 rfl rfl rfl (c_cardAt hp rfl hb.1) ?_
    refine m_E.run 1 (pc1 := 18) (ls1 := [some _, some _, some _, some _]) (st1 := [_, _]) rfl ?_
    have hlt : order.getD (dealt + i) 0 < 24 := g_getD_lt hp.2.2.2.2.2 (by rw [hp.2.2.2.1]; exact hb.1)
    refine m_E.ic2 rfl (fun h1 => ?_) (fun h1 => ?_)
    · skip
      rw [m_neI (by omega) (by omega), decide_eq_true_eq] at h1
      refine m_E.run 2 (pc1 := 7) (ls1 := [some _, some _, some _, some _]) (st1 := []) rfl ?_
      rw [nI_add]
      refine K (fun k hk => ?_)
      by_cases e : k = i
      · rw [e]; exact h1
      · exact hI k (by omega)
    · skip
      rw [m_neI (by omega) (by omega), decide_eq_false_iff_not, Decidable.not_not] at h1
      refine m_E.run 1 (pc1 := 22) (ls1 := [some _, some _, some _, some _]) (st1 := [_]) rfl ?_
      refine m_E.iret rfl ⟨?_, rfl⟩
      rcases hr with ⟨j, j1, j2, j3, j4⟩ | ⟨j1, -⟩
      · have e : j = i := by
          rcases Nat.lt_trichotomy j i with q | q | q
          · exact absurd j2 (hI j q)
          · exact q
          · exact absurd h1 (j3 i q)
        rw [j4, e]
      · exact absurd h1 (j1 i hi)
  · skip
    exact fun k hk => absurd hk (Nat.not_lt_zero k)
  · skip
    show m_E _ _ 7 ((fun i => [some (.ref p), some (.int (nI card)), some (.int (nI (g_left fr dealt))), some (.int (nI i))]) ((g_left fr dealt))) [] ((fun i => h) ((g_left fr dealt))) _
    dsimp only
    refine m_E.run 2 (pc1 := 9) (ls1 := [some _, some _, some _, some _]) (st1 := [_, _]) rfl ?_
    refine m_E.ict (by rw [m_leI (by have := g_left_le fr dealt; omega) (by have := g_left_le fr dealt; omega)]; simp) rfl ?_
    refine m_E.run 1 (pc1 := 31) (ls1 := [some _, some _, some _, some _]) (st1 := [_]) rfl ?_
    refine m_E.iret rfl ⟨?_, rfl⟩
    rcases hr with ⟨j, j1, j2, j3, j4⟩ | ⟨-, j1⟩
    · exact absurd j2 (hI j j1)
    · rw [j1]
theorem c_marksOf {d : Nat} {p o dealt card k : Nat} {order : List Nat} {s : c_Sh} {x : Int32} {h : m_Hp} (hp : Hpk h p o order (some k) dealt) (hs : Hsh h k s) (hx : x = nI card) (hc : card < 24) : m_Call m_P (d + 2) 15 [.ref p, .int x] (h) (some (.int (nI (s.2.1.getD card 0)))) (h) := by
  refine m_call_of (tab := tX1_marksOf) (nL := 2) rfl rfl ?_
  subst hx
  obtain ⟨p1, p2, p3, p4, p5, p6⟩ := hp
  obtain ⟨s1, s2, s3, s4, s5, s6, s7, s8⟩ := hs
  refine m_E.run 1 (pc1 := 1) (ls1 := [some _, some _]) (st1 := [_]) rfl ?_
  refine m_E.gf p2 p1 rfl rfl ?_
  refine m_E.run 2 (pc1 := 13) (ls1 := [some _, some _]) (st1 := [_]) rfl ?_
  refine m_E.gf p2 p1 rfl rfl ?_
  refine m_E.gf s2 s1 rfl rfl ?_
  refine m_E.run 1 (pc1 := 20) (ls1 := [some _, some _]) (st1 := [_, _]) rfl ?_
  refine m_E.cv rfl rfl (c_at s4 rfl (by rw [List.length_map]; omega) (by rw [List.length_map]; omega)) ?_
  rw [m_mapD]
  exact m_E.iret rfl ⟨rfl, rfl⟩
theorem c_marksOf0 {d : Nat} {p o dealt : Nat} {order : List Nat} {x : Int32} {h : m_Hp} (hp : Hpk h p o order none dealt) : m_Call m_P (d + 2) 15 [.ref p, .int x] (h) (some (.int (-5))) (h) := by
  refine m_call_of (tab := tX1_marksOf) (nL := 2) rfl rfl ?_
  obtain ⟨p1, p2, p3, p4, p5, p6⟩ := hp
  refine m_E.run 1 (pc1 := 1) (ls1 := [some _, some _]) (st1 := [_]) rfl ?_
  refine m_E.gf p2 p1 rfl rfl ?_
  refine m_E.run 3 (pc1 := 23) (ls1 := [some _, some _]) (st1 := [_]) rfl ?_
  exact m_E.iret rfl ⟨rfl, rfl⟩
/-- the marks that are seen at a place -/
def g_mk (order marks : List Nat) (dealt place : Nat) : Nat := marks.getD (order.getD (dealt + place) 0) 0
theorem c_marksAt {d : Nat} {p o dealt place k : Nat} {order : List Nat} {s : c_Sh} {x : Int32} {h : m_Hp} (hp : Hpk h p o order (some k) dealt) (hs : Hsh h k s) (hx : x = nI place) (hl : dealt + place < 24) : m_Call m_P (d + 3) 16 [.ref p, .int x] (h) (some (.int (nI (g_mk order s.2.1 dealt place)))) (h) := by
  refine m_call_of (tab := tX1_marksAt) (nL := 2) rfl rfl ?_
  refine m_E.run 3 (pc1 := 3) (ls1 := [some _, some _]) (st1 := [_, _, _]) rfl ?_
  refine m_E.ov hp.2.1 hp.1 rfl rfl rfl (c_cardAt hp hx hl) ?_
  refine m_E.ov hp.2.1 hp.1 rfl rfl rfl (c_marksOf hp hs rfl (g_getD_lt hp.2.2.2.2.2 (by rw [hp.2.2.2.1]; exact hl))) ?_
  exact m_E.iret rfl ⟨rfl, rfl⟩
/-- every mark is small -/
def g_sm (s : c_Sh) : Prop := ∀ x, x ∈ s.2.1 → x < 16
theorem g_mk_lt {order : List Nat} {s : c_Sh} {dealt place : Nat} (hs : g_sm s) (h2 : s.2.1.length = 24) (hc : order.getD (dealt + place) 0 < 24) : g_mk order s.2.1 dealt place < 16 := g_getD_lt hs (by omega)
def g_can (order marks : List Nat) (dealt n place : Nat) : Nat := g_cnt (fun o => g_mk order marks dealt o == g_mk order marks dealt place) n
theorem c_canBe {d : Nat} {p o dealt place k : Nat} {order : List Nat} {s : c_Sh} {x : Int32} {h : m_Hp} (hp : Hpk h p o order (some k) dealt) (hs : Hsh h k s) (hm : g_sm s) (hx : x = nI place) (hl : dealt + place < 24) : m_Call m_P (d + 4) 17 [.ref p, .int x] (h) (some (.int (nI (g_can order s.2.1 dealt (24 - dealt) place)))) (h) := by
  refine m_call_of (tab := tX1_canBeAt) (nL := 6) rfl rfl ?_
  subst hx
  have lt : ∀ j, dealt + j < 24 → g_mk order s.2.1 dealt j < 16 := fun j hj => g_mk_lt hm hs.2.2.2.2.2.2.1 (g_getD_lt hp.2.2.2.2.2 (by rw [hp.2.2.2.1]; exact hj))
  have hlt := lt place hl
  refine m_E.run 2 (pc1 := 2) (ls1 := [some _, some _, none, none, none, none]) (st1 := [_, _]) rfl ?_
  refine m_E.ov hp.2.1 hp.1 rfl rfl rfl (c_marksAt hp hs rfl hl) ?_
  refine m_E.run 2 (pc1 := 7) (ls1 := [some _, some _, some _, none, none, none]) (st1 := [_]) rfl ?_
  refine m_E.ov hp.2.1 hp.1 rfl rfl rfl (c_left hp) ?_
  refine m_E.run 5 (pc1 := 17) (ls1 := [some _, some _, some _, some _, some _, some _]) (st1 := []) rfl ?_
  refine m_E.up (fun i => (17, [some (.ref p), some (.int (nI place)), some (.int (nI (g_mk order s.2.1 dealt place))), some (.int (nI (g_left (some k) dealt))), some (.int (nI (g_cnt (fun o => g_mk order s.2.1 dealt o == g_mk order s.2.1 dealt place) i))), some (.int (nI i))], [], h)) (24 - dealt) (fun i => True) (fun i hi hI K => ?_) ?_ (fun hI => ?_)
  · skip
    show m_E _ _ 17 [some (.ref p), some (.int (nI place)), some (.int (nI (g_mk order s.2.1 dealt place))), some (.int (nI (g_left (some k) dealt))), some (.int (nI (g_cnt (fun o => g_mk order s.2.1 dealt o == g_mk order s.2.1 dealt place) i))), some (.int (nI i))] [] (h) _
    refine m_E.run 2 (pc1 := 20) (ls1 := [some _, some _, some _, some _, some _, some _]) (st1 := [_, _]) rfl ?_
    refine m_E.icf (by rw [g_left, m_leI (by omega) (by omega), decide_eq_false_iff_not]; omega) rfl ?_
    refine m_E.run 2 (pc1 := 26) (ls1 := [some _, some _, some _, some _, some _, some _]) (st1 := [_, _]) rfl ?_
    refine m_E.ov hp.2.1 hp.1 rfl rfl rfl (c_marksAt hp hs rfl (by omega)) ?_
    refine m_E.run 1 (pc1 := 30) (ls1 := [some _, some _, some _, some _, some _, some _]) (st1 := [_, _]) rfl ?_
    have hlt2 := lt i (by omega)
    refine m_E.ic2 rfl (fun h1 => ?_) (fun h1 => ?_)
    · skip
      rw [m_neI (by omega) (by omega), decide_eq_true_eq] at h1
      refine m_E.run 2 (pc1 := 17) (ls1 := [some _, some _, some _, some _, some _, some _]) (st1 := []) rfl ?_
      rw [nI_add]
      have e : g_cnt (fun o => g_mk order s.2.1 dealt o == g_mk order s.2.1 dealt place) (i + 1) = g_cnt (fun o => g_mk order s.2.1 dealt o == g_mk order s.2.1 dealt place) i := by rw [g_cnt, if_neg (by simpa using h1), Nat.add_zero]
      rw [← e]
      exact K trivial
    · skip
      rw [m_neI (by omega) (by omega), decide_eq_false_iff_not, Decidable.not_not] at h1
      refine m_E.run 3 (pc1 := 17) (ls1 := [some _, some _, some _, some _, some _, some _]) (st1 := []) rfl ?_
      rw [nI_add, nI_add]
      have e : g_cnt (fun o => g_mk order s.2.1 dealt o == g_mk order s.2.1 dealt place) (i + 1) = g_cnt (fun o => g_mk order s.2.1 dealt o == g_mk order s.2.1 dealt place) i + 1 := by rw [g_cnt, if_pos (by simpa using h1)]
      rw [← e]
      exact K trivial
  · skip
    trivial
  · skip
    show m_E _ _ 17 ((fun i => [some (.ref p), some (.int (nI place)), some (.int (nI (g_mk order s.2.1 dealt place))), some (.int (nI (g_left (some k) dealt))), some (.int (nI (g_cnt (fun o => g_mk order s.2.1 dealt o == g_mk order s.2.1 dealt place) i))), some (.int (nI i))]) ((24 - dealt))) [] ((fun i => h) ((24 - dealt))) _
    dsimp only
    refine m_E.run 2 (pc1 := 20) (ls1 := [some _, some _, some _, some _, some _, some _]) (st1 := [_, _]) rfl ?_
    refine m_E.ict (by rw [g_left, m_leI (by omega) (by omega)]; simp) rfl ?_
    refine m_E.run 1 (pc1 := 44) (ls1 := [some _, some _, some _, some _, some _, some _]) (st1 := [_]) rfl ?_
    exact m_E.iret rfl ⟨rfl, rfl⟩
