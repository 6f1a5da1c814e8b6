/-! a state of the class in a row of the model -/
def Enc (F : Nat → c_Sh) (S : c_St) (r : List Int32) : Prop := r.length = 611 ∧ (∀ k, k < 4 → r.getD k 0 = nI ((c_settings S).getD k 0)) ∧ r.getD 4 0 = nI (c_printed S) ∧ r.getD 5 0 = nI (c_piled S) ∧ r.getD 6 0 = (if c_fr S = none then nI 0 else nI 1) ∧ r.getD 7 0 = nI (c_lf S) ∧ r.getD 8 0 = c_sold S ∧ r.getD 9 0 = c_pulped S ∧ r.getD 10 0 = c_coins S ∧ (∀ k, k < 24 → r.getD (11 + k) 0 = nI ((c_cards S).getD k 0)) ∧ (∀ k, k < 24 → r.getD (35 + k) 0 = (c_leans S).getD k 0) ∧ (∀ k, k < 24 → r.getD (59 + k) 0 = nI ((c_backs S).getD k 0)) ∧ (∀ k, k < c_lf S → r.getD (83 + k) 0 = nI ((c_order S).getD (c_dealt S + k) 0)) ∧ (∀ s, c_fr S = some s → (∀ k, k < 24 → r.getD (107 + k) 0 = (g_sh F s).2.2.getD k 0) ∧ (∀ k, k < 24 → r.getD (131 + k) 0 = nI ((g_sh F s).2.1.getD k 0)) ∧ (∀ k, k < 24 → r.getD (155 + (c_order S).getD k 0) 0 = nI (if k < c_dealt S then 1 else 0))) ∧ (∀ j, j < c_piled S → ∀ s, (c_pile S).getD j none = some s → ∀ k, k < 24 → r.getD (179 + 72 * j + k) 0 = nI ((g_sh F s).1.getD k 0) ∧ r.getD (203 + 72 * j + k) 0 = (g_sh F s).2.2.getD k 0 ∧ r.getD (227 + 72 * j + k) 0 = nI ((g_sh F s).2.1.getD ((g_sh F s).1.getD k 0) 0))
section
variable {F : Nat → c_Sh} {S : c_St} {r : List Int32}
theorem Enc.len (E : Enc F S r) : r.length = 611 := E.1
theorem Enc.set (E : Enc F S r) {k : Nat} (hk : k < 4) : r.getD k 0 = nI ((c_settings S).getD k 0) := E.2.1 k hk
theorem Enc.prt (E : Enc F S r) : r.getD 4 0 = nI (c_printed S) := E.2.2.1
theorem Enc.pil (E : Enc F S r) : r.getD 5 0 = nI (c_piled S) := E.2.2.2.1
theorem Enc.has (E : Enc F S r) : r.getD 6 0 = (if c_fr S = none then nI 0 else nI 1) := E.2.2.2.2.1
theorem Enc.lf (E : Enc F S r) : r.getD 7 0 = nI (c_lf S) := E.2.2.2.2.2.1
theorem Enc.sold (E : Enc F S r) : r.getD 8 0 = c_sold S := E.2.2.2.2.2.2.1
theorem Enc.pul (E : Enc F S r) : r.getD 9 0 = c_pulped S := E.2.2.2.2.2.2.2.1
theorem Enc.coin (E : Enc F S r) : r.getD 10 0 = c_coins S := E.2.2.2.2.2.2.2.2.1
theorem Enc.card (E : Enc F S r) {k : Nat} (hk : k < 24) : r.getD (11 + k) 0 = nI ((c_cards S).getD k 0) := E.2.2.2.2.2.2.2.2.2.1 k hk
theorem Enc.lean (E : Enc F S r) {k : Nat} (hk : k < 24) : r.getD (35 + k) 0 = (c_leans S).getD k 0 := E.2.2.2.2.2.2.2.2.2.2.1 k hk
theorem Enc.back (E : Enc F S r) {k : Nat} (hk : k < 24) : r.getD (59 + k) 0 = nI ((c_backs S).getD k 0) := E.2.2.2.2.2.2.2.2.2.2.2.1 k hk
theorem Enc.ord (E : Enc F S r) {k : Nat} (hk : k < c_lf S) : r.getD (83 + k) 0 = nI ((c_order S).getD (c_dealt S + k) 0) := E.2.2.2.2.2.2.2.2.2.2.2.2.1 k hk
theorem Enc.pack (E : Enc F S r) {s : Nat} (hs : c_fr S = some s) : (∀ k, k < 24 → r.getD (107 + k) 0 = (g_sh F s).2.2.getD k 0) ∧ (∀ k, k < 24 → r.getD (131 + k) 0 = nI ((g_sh F s).2.1.getD k 0)) ∧ (∀ k, k < 24 → r.getD (155 + (c_order S).getD k 0) 0 = nI (if k < c_dealt S then 1 else 0)) := E.2.2.2.2.2.2.2.2.2.2.2.2.2.1 s hs
theorem Enc.pile (E : Enc F S r) {j : Nat} (hj : j < c_piled S) {s : Nat} (hs : (c_pile S).getD j none = some s) {k : Nat} (hk : k < 24) : r.getD (179 + 72 * j + k) 0 = nI ((g_sh F s).1.getD k 0) ∧ r.getD (203 + 72 * j + k) 0 = (g_sh F s).2.2.getD k 0 ∧ r.getD (227 + 72 * j + k) 0 = nI ((g_sh F s).2.1.getD ((g_sh F s).1.getD k 0) 0) := E.2.2.2.2.2.2.2.2.2.2.2.2.2.2 j hj s hs k hk
end
theorem g_sd {l : List Int32} {a i : Nat} {v : Int32} (ha : a < l.length) : (l.set a v).getD i 0 = if i = a then v else l.getD i 0 := by
  by_cases e : i = a
  · rw [if_pos e, e, List.getD_eq_getElem?_getD, List.getElem?_set_self ha]; rfl
  · rw [if_neg e, List.getD_eq_getElem?_getD, List.getElem?_set_ne (Ne.symm e), List.getD_eq_getElem?_getD]
theorem g_sdN {l : List Nat} {a i : Nat} {v : Nat} (ha : a < l.length) : (l.set a v).getD i 0 = if i = a then v else l.getD i 0 := by
  by_cases e : i = a
  · rw [if_pos e, e, List.getD_eq_getElem?_getD, List.getElem?_set_self ha]; rfl
  · rw [if_neg e, List.getD_eq_getElem?_getD, List.getElem?_set_ne (Ne.symm e), List.getD_eq_getElem?_getD]
theorem Enc.cong {F F2 : Nat → c_Sh} {S : c_St} {r : List Int32} (E : Enc F S r) (h1 : ∀ s, c_fr S = some s → g_sh F2 s = g_sh F s) (h2 : ∀ j s, j < c_piled S → (c_pile S).getD j none = some s → g_sh F2 s = g_sh F s) : Enc F2 S r := by
  obtain ⟨e1, e2, e3, e4, e5, e6, e7, e8, e9, e10, e11, e12, e13, e14, e15⟩ := E
  exact ⟨e1, e2, e3, e4, e5, e6, e7, e8, e9, e10, e11, e12, e13, fun s hs => by rw [h1 s hs]; exact e14 s hs, fun j hj s hs => by rw [h2 j s hj hs]; exact e15 j hj s hs⟩
theorem g_sh_grow {F : Nat → c_Sh} {n k : Nat} {s : c_Sh} (hk : ∃ i, i < n ∧ k = 69 + 4 * i) : g_sh (g_upd F n s) k = g_sh F k := by
  obtain ⟨i, hi, rfl⟩ := hk
  rw [g_sh, g_sh, show (69 + 4 * i - 69) / 4 = i by omega, g_upd_off _ _ (by omega)]
theorem g_sh_new {F : Nat → c_Sh} {n : Nat} {s : c_Sh} : g_sh (g_upd F n s) (69 + 4 * n) = s := by
  rw [g_sh, show (69 + 4 * n - 69) / 4 = n by omega, g_upd_at]
theorem Enc.grow {F : Nat → c_Sh} {S : c_St} {r : List Int32} {n p : Nat} {s : c_Sh} (E : Enc F S r) (t : Tok n p S) : Enc (g_upd F n s) S r := by
  refine E.cong (fun k hk => g_sh_grow (t.2.2.1.2.2 k hk)) (fun j k hj hk => ?_)
  obtain ⟨i, hi, e⟩ := t.2.2.1.2.1 j hj
  exact g_sh_grow ⟨i, hi, by rw [e] at hk; exact (Option.some.inj hk).symm⟩
section
variable {C : m_CR} {tab : m_Tab} {pc : Nat} {ls : m_Ls} {st : List Value} {h : m_Hp} {Q : Option Value → m_Hp → Prop} {M : c_M}
theorem m_E.rs {j : Nat} {i v : Int32} (H : Hmo h M) (hl : (d_state M).length = 611) (hi : i = nI j) (hj : j < 611) (hv : (d_state M).getD j 0 = v) (e1 : m_at tab pc = some (m_ild 0)) (kk : m_E C tab (pc + 1) ls (.int v :: st) h Q) : m_E C tab pc ls (.int i :: .ref 62 :: st) h Q :=
  m_E.ild H.2.1 (Or.inl rfl) hi (by rw [hl]; exact hj) (by rw [hl]; decide) e1 (by rw [hv]; exact kk)
theorem m_E.ws {j : Nat} {i x : Int32} (H : Hmo h M) (hl : (d_state M).length = 611) (hi : i = nI j) (hj : j < 611) (e1 : m_at tab pc = some (m_ist 0 (fun x => x))) (kk : ∀ h1, Hmo h1 (d_set_state M ((d_state M).set j x)) → Chg 61 69 h h1 → m_E C tab (pc + 1) ls st h1 Q) : m_E C tab pc ls (.int x :: .int i :: .ref 62 :: st) h Q :=
  m_E.ig H.2.1 (by decide) hi (by rw [hl]; exact hj) (by rw [hl]; decide) e1 (fun h1 u => kk h1 (H.w_state u) (u.chg (by decide) (by decide)))
end
/-! the model's small statics -/
def w_in (l m x : Int32) : Bool := !decide (x < l) && !decide (m < x)
theorem e_within {d : Nat} {x l m : Int32} {h : m_Hp} : m_Call m_P (d + 1) 96 [.int x, .int l, .int m] (h) (some (.int (m_bI (w_in l m x)))) (h) := by
  refine m_call_of (tab := tX6_within) (nL := 3) rfl rfl ?_
  refine m_E.run 2 (pc1 := 2) (ls1 := [some _, some _, some _]) (st1 := [_, _]) rfl ?_
  refine m_E.ic2 rfl (fun q1 => ?_) (fun q1 => ?_)
  · skip
    rw [w_in, q1]
    refine m_E.run 1 (pc1 := 15) (ls1 := [some _, some _, some _]) (st1 := [_]) rfl ?_
    exact m_E.zret (by decide) rfl ⟨rfl, rfl⟩
  · skip
    refine m_E.run 2 (pc1 := 7) (ls1 := [some _, some _, some _]) (st1 := [_, _]) rfl ?_
    refine m_E.ic2 rfl (fun q2 => ?_) (fun q2 => ?_)
    · skip
      rw [w_in, q1, q2]
      refine m_E.run 1 (pc1 := 15) (ls1 := [some _, some _, some _]) (st1 := [_]) rfl ?_
      exact m_E.zret (by decide) rfl ⟨rfl, rfl⟩
    · skip
      rw [w_in, q1, q2]
      refine m_E.run 2 (pc1 := 15) (ls1 := [some _, some _, some _]) (st1 := [_]) rfl ?_
      exact m_E.zret (by decide) rfl ⟨rfl, rfl⟩
theorem m_toI_m1 {n : Nat} (h : n < 2 ^ 30) : (nI n - nI 1).toInt = (n : Int) - 1 := by
  rcases Nat.eq_zero_or_pos n with rfl | hn
  · decide
  · rw [pk_sub hn, nI_toInt (by omega)]; omega
theorem w_in_0 {n : Nat} {x : Int32} (h : n < 2 ^ 30) : w_in (nI 0) (nI n - nI 1) x = g_in n x := by
  have e : decide (nI n - nI 1 < x) = decide (nI n ≤ x) := by rw [decide_eq_decide, Int32.lt_iff_toInt_lt, Int32.le_iff_toInt_le, m_toI_m1 h, nI_toInt (by omega)]; omega
  rw [w_in, g_in, e]; rfl
theorem w_in_1 {n : Nat} {x : Int32} (h : n < 2 ^ 30) : w_in (nI 1) (nI n - nI 1) x = (!decide (x < nI 1) && !decide (nI n ≤ x)) := by
  have e : decide (nI n - nI 1 < x) = decide (nI n ≤ x) := by rw [decide_eq_decide, Int32.lt_iff_toInt_lt, Int32.le_iff_toInt_le, m_toI_m1 h, nI_toInt (by omega)]; omega
  rw [w_in, e]
theorem w_in_k {n : Nat} {x : Int32} (h : n < 2 ^ 30) (h1 : 0 < n) : w_in (nI 0) (nI (n - 1)) x = g_in n x := by
  rw [← w_in_0 h, pk_sub h1]
theorem e_isCell {d : Nat} {x : Int32} {h : m_Hp} : m_Call m_P (d + 2) 97 [.int x] (h) (some (.int (m_bI (g_in 24 x)))) (h) := by
  refine m_call_of (tab := tX6_isCell) (nL := 1) rfl rfl ?_
  refine m_E.run 3 (pc1 := 4) (ls1 := [some _]) (st1 := [_, _, _]) rfl ?_
  refine m_E.cv rfl rfl (e_within) ?_
  rw [show w_in (nI 0) (nI 23) x = g_in 24 x from w_in_k (n := 24) (by decide) (by decide)]
  exact m_E.zret (m_bI_z _) rfl ⟨rfl, rfl⟩
theorem e_isMark {d : Nat} {x : Int32} {h : m_Hp} : m_Call m_P (d + 2) 98 [.int x] (h) (some (.int (m_bI (g_in 4 x)))) (h) := by
  refine m_call_of (tab := tX6_isMark) (nL := 1) rfl rfl ?_
  refine m_E.run 3 (pc1 := 3) (ls1 := [some _]) (st1 := [_, _, _]) rfl ?_
  refine m_E.cv rfl rfl (e_within) ?_
  rw [show w_in (nI 0) (nI 3) x = g_in 4 x from w_in_k (n := 4) (by decide) (by decide)]
  exact m_E.zret (m_bI_z _) rfl ⟨rfl, rfl⟩
theorem e_isCourt {d : Nat} {k : Nat} {x : Int32} {h : m_Hp} (hx : x = nI k) (hk : k < 100) : m_Call m_P (d + 1) 99 [.int x] (h) (some (.int (m_bI (decide (3 ≤ k % 6))))) (h) := by
  refine m_call_of (tab := tX6_isCourt) (nL := 1) rfl rfl ?_
  subst hx
  refine m_E.run 2 (pc1 := 3) (ls1 := [some _]) (st1 := [_, _]) rfl ?_
  refine m_E.div (by decide) rfl ?_
  rw [m_rem (by omega) 6 (by decide) (by decide)]
  refine m_E.run 1 (pc1 := 5) (ls1 := [some _]) (st1 := [_, _]) rfl ?_
  refine m_E.ic2 rfl (fun q1 => ?_) (fun q1 => ?_)
  · skip
    rw [m_leI (by omega) (by omega), decide_eq_true_eq] at q1
    rw [decide_eq_false (by omega)]
    refine m_E.run 1 (pc1 := 13) (ls1 := [some _]) (st1 := [_]) rfl ?_
    exact m_E.zret (by decide) rfl ⟨rfl, rfl⟩
  · skip
    rw [m_leI (by omega) (by omega), decide_eq_false_iff_not] at q1
    rw [decide_eq_true (by omega)]
    refine m_E.run 2 (pc1 := 13) (ls1 := [some _]) (st1 := [_]) rfl ?_
    exact m_E.zret (by decide) rfl ⟨rfl, rfl⟩
theorem g_ones4 : ∀ v, v < 16 → (nI v &&& nI 1) + (nI v >>> (nI 1 &&& 31) &&& nI 1) + (nI v >>> (nI 2 &&& 31) &&& nI 1) + (nI v >>> (nI 3 &&& 31) &&& nI 1) = nI (g_pop v) := by decide +kernel
theorem e_ones {d : Nat} {v : Nat} {x : Int32} {h : m_Hp} (hx : x = nI v) (hv : v < 16) : m_Call m_P (d + 1) 100 [.int x] (h) (some (.int (nI (g_pop v)))) (h) := by
  refine m_call_of (tab := tX6_ones) (nL := 1) rfl rfl ?_
  subst hx
  refine m_E.run 21 (pc1 := 21) (ls1 := [some _]) (st1 := [_]) rfl ?_
  dsimp only
  rw [g_ones4 v hv]
  exact m_E.iret rfl ⟨rfl, rfl⟩
theorem e_leastOf {d : Nat} {i : Nat} {x : Int32} {h : m_Hp} (hx : x = nI i) (hi : i < 4) : m_Call m_P (d + 1) 113 [.int x] (h) (some (.int (nI (b_least i)))) (h) := by
  refine m_call_of (tab := tX6_leastOf) (nL := 1) rfl rfl ?_
  subst hx
  have e : i = 0 ∨ i = 1 ∨ i = 2 ∨ i = 3 := by omega
  refine m_E.run 1 (pc1 := 1) (ls1 := [some _]) (st1 := [_]) rfl ?_
  rcases e with rfl | rfl | rfl | rfl
  · skip
    refine m_E.ift (rfl) rfl ?_
    refine m_E.run 2 (pc1 := 14) (ls1 := [some _]) (st1 := [_]) rfl ?_
    exact m_E.iret rfl ⟨rfl, rfl⟩
  · skip
    refine m_E.iff (rfl) rfl ?_
    refine m_E.run 2 (pc1 := 6) (ls1 := [some _]) (st1 := [_, _]) rfl ?_
    refine m_E.ict (rfl) rfl ?_
    refine m_E.run 1 (pc1 := 14) (ls1 := [some _]) (st1 := [_]) rfl ?_
    exact m_E.iret rfl ⟨rfl, rfl⟩
  · skip
    refine m_E.iff (rfl) rfl ?_
    refine m_E.run 2 (pc1 := 6) (ls1 := [some _]) (st1 := [_, _]) rfl ?_
    refine m_E.ict (rfl) rfl ?_
    refine m_E.run 1 (pc1 := 14) (ls1 := [some _]) (st1 := [_]) rfl ?_
    exact m_E.iret rfl ⟨rfl, rfl⟩
  · skip
    refine m_E.iff (rfl) rfl ?_
    refine m_E.run 2 (pc1 := 6) (ls1 := [some _]) (st1 := [_, _]) rfl ?_
    refine m_E.icf (rfl) rfl ?_
    refine m_E.run 2 (pc1 := 14) (ls1 := [some _]) (st1 := [_]) rfl ?_
    exact m_E.iret rfl ⟨rfl, rfl⟩
theorem e_mostOf {d : Nat} {i : Nat} {x : Int32} {h : m_Hp} (hx : x = nI i) (hi : i < 4) : m_Call m_P (d + 1) 114 [.int x] (h) (some (.int (nI (b_most i)))) (h) := by
  refine m_call_of (tab := tX6_mostOf) (nL := 1) rfl rfl ?_
  subst hx
  have e : i = 0 ∨ i = 1 ∨ i = 2 ∨ i = 3 := by omega
  refine m_E.run 2 (pc1 := 2) (ls1 := [some _]) (st1 := [_, _]) rfl ?_
  rcases e with rfl | rfl | rfl | rfl
  · skip
    refine m_E.ict (rfl) rfl ?_
    refine m_E.run 2 (pc1 := 12) (ls1 := [some _]) (st1 := [_, _]) rfl ?_
    refine m_E.ict (rfl) rfl ?_
    refine m_E.run 1 (pc1 := 22) (ls1 := [some _]) (st1 := [_]) rfl ?_
    exact m_E.iret rfl ⟨rfl, rfl⟩
  · skip
    refine m_E.icf (rfl) rfl ?_
    refine m_E.run 2 (pc1 := 22) (ls1 := [some _]) (st1 := [_]) rfl ?_
    exact m_E.iret rfl ⟨rfl, rfl⟩
  · skip
    refine m_E.ict (rfl) rfl ?_
    refine m_E.run 2 (pc1 := 12) (ls1 := [some _]) (st1 := [_, _]) rfl ?_
    refine m_E.icf (rfl) rfl ?_
    refine m_E.run 2 (pc1 := 22) (ls1 := [some _]) (st1 := [_]) rfl ?_
    exact m_E.iret rfl ⟨rfl, rfl⟩
  · skip
    refine m_E.ict (rfl) rfl ?_
    refine m_E.run 2 (pc1 := 12) (ls1 := [some _]) (st1 := [_, _]) rfl ?_
    refine m_E.ict (rfl) rfl ?_
    refine m_E.run 1 (pc1 := 22) (ls1 := [some _]) (st1 := [_]) rfl ?_
    exact m_E.iret rfl ⟨rfl, rfl⟩
theorem e_sheetAt {d : Nat} {j : Nat} {x : Int32} {h : m_Hp} (hx : x = nI j) : m_Call m_P (d + 1) 117 [.int x] (h) (some (.int (nI (179 + 72 * j)))) (h) := by
  refine m_call_of (tab := tX6_sheetAt) (nL := 1) rfl rfl ?_
  subst hx
  refine m_E.run 5 (pc1 := 8) (ls1 := [some _]) (st1 := [_]) rfl ?_
  dsimp only
  rw [pk_mul, nI_add]
  exact m_E.iret rfl ⟨rfl, rfl⟩
theorem e_great {d : Nat} {x : Int32} {h : m_Hp} : m_Call m_P (d + 1) 133 [.int x] (h) (some (.int (g_abs x))) (h) := by
  refine m_call_of (tab := tX6_great) (nL := 1) rfl rfl ?_
  refine m_E.run 1 (pc1 := 1) (ls1 := [some _]) (st1 := [_]) rfl ?_
  refine m_E.if2 rfl (fun q1 => ?_) (fun q1 => ?_)
  · skip
    have e : g_abs x = x := if_pos (of_decide_eq_true q1)
    rw [e]
    refine m_E.run 1 (pc1 := 10) (ls1 := [some _]) (st1 := [_]) rfl ?_
    exact m_E.iret rfl ⟨rfl, rfl⟩
  · skip
    have e : g_abs x = -x := by rw [g_abs, if_neg (of_decide_eq_false q1)]; exact Int32.zero_sub x
    rw [e]
    refine m_E.run 3 (pc1 := 10) (ls1 := [some _]) (st1 := [_]) rfl ?_
    dsimp only
    exact m_E.iret rfl ⟨rfl, rfl⟩
theorem e_top {d : Nat} {j : Nat} {M : c_M} {h : m_Hp} (H : Hmo h M) (hl : (d_state M).length = 611) (h5 : (d_state M).getD 5 0 = nI (j + 1)) : m_Call m_P (d + 2) 118 [.ref 61] (h) (some (.int (nI (179 + 72 * j)))) (h) := by
  refine m_call_of (tab := tX6_top) (nL := 1) rfl rfl ?_
  refine m_E.run 1 (pc1 := 1) (ls1 := [some _]) (st1 := [_]) rfl ?_
  refine m_E.gf H.o (by decide) rfl rfl ?_
  refine m_E.run 1 (pc1 := 5) (ls1 := [some _]) (st1 := [_, _]) rfl ?_
  refine m_E.rs H hl rfl (by omega) (h5) rfl ?_
  refine m_E.run 2 (pc1 := 8) (ls1 := [some _]) (st1 := [_]) rfl ?_
  dsimp only
  rw [pk_sub (by omega), Nat.add_sub_cancel]
  refine m_E.cv rfl rfl (e_sheetAt rfl) ?_
  exact m_E.iret rfl ⟨rfl, rfl⟩
theorem e_backOf {d : Nat} {c : Nat} {tu : Bool} {x y : Int32} {M : c_M} {h : m_Hp} (H : Hmo h M) (hl : (d_state M).length = 611) (hx : x = nI c) (hc : c < 24) (hy : y = m_bI tu) : m_Call m_P (d + 1) 116 [.ref 61, .int x, .int y] (h) (some (.int ((d_state M).getD (59 + (if tu then 23 - c else c)) 0))) (h) := by
  refine m_call_of (tab := tX6_backOf) (nL := 3) rfl rfl ?_
  subst hx hy
  refine m_E.run 1 (pc1 := 1) (ls1 := [some _, some _, some _]) (st1 := [_]) rfl ?_
  refine m_E.gf H.o (by decide) rfl rfl ?_
  refine m_E.run 2 (pc1 := 7) (ls1 := [some _, some _, some _]) (st1 := [_, _, _]) rfl ?_
  cases tu
  · skip
    refine m_E.ift (rfl) rfl ?_
    refine m_E.run 2 (pc1 := 19) (ls1 := [some _, some _, some _]) (st1 := [_, _]) rfl ?_
    dsimp only
    refine m_E.rs H hl (nI_add _ _) (by omega) (rfl) rfl ?_
    exact m_E.iret rfl ⟨rfl, rfl⟩
  · skip
    refine m_E.iff (rfl) rfl ?_
    refine m_E.run 5 (pc1 := 19) (ls1 := [some _, some _, some _]) (st1 := [_, _]) rfl ?_
    dsimp only
    rw [pk_sub (by omega)]
    refine m_E.rs H hl (nI_add _ _) (by omega) (rfl) rfl ?_
    exact m_E.iret rfl ⟨rfl, rfl⟩
