/-! printing -/
theorem g_behind_at {cards backs : List Nat} {tu : Bool} (hi : ∀ a b, a < 24 → b < 24 → cards.getD a 0 = cards.getD b 0 → a = b) (hc : ∀ k, k < 24 → cards.getD k 0 < 24) : ∀ n, n ≤ 24 → ∀ k, k < n → (g_behind cards backs tu n).getD (cards.getD k 0) 0 = backs.getD (if tu then 23 - k else k) 0
  | 0, _, k, hk => absurd hk (Nat.not_lt_zero k)
  | n + 1, hn, k, hk => by
    rw [g_behind]
    by_cases e : k = n
    · rw [e, g_set_at (by rw [g_behind_len]; exact hc n (by omega))]
    · rw [g_set_off (fun z => e (hi k n (by omega) (by omega) z.symm))]
      exact g_behind_at hi hc n (by omega) k (by omega)
/-- what a cell of the blocks is packed as -/
def y_pv (S : c_St) (tu : Bool) (cell : Nat) : Nat := (c_cards S).getD cell 0 + 32 * (c_backs S).getD (if tu then 23 - cell else cell) 0
theorem y_pv_ok {n : List Nat} {p cell : Nat} {S : c_St} {tu : Bool} (t : Tok n p S) (hc : cell < 24) : y_pv S tu cell = y_vc (g_sheet S tu) cell ∧ y_pv S tu cell < 512 := by
  have e := g_behind_at (backs := c_backs S) (tu := tu) (fun a b ha hb z => g_perm_inj t.2.2.2.1 t.crd ha hb z) t.crd 24 (Nat.le_refl _) cell hc
  have l1 := t.crd cell hc
  have l2 := t.bck (if tu then 23 - cell else cell) (by split <;> omega)
  refine ⟨?_, by rw [y_pv]; omega⟩
  have e1 : (g_sheet S tu).1 = c_cards S := by unfold g_sheet; dsimp only
  have e2 : (g_sheet S tu).2.1 = g_behind (c_cards S) (c_backs S) tu 24 := by unfold g_sheet; dsimp only
  rw [y_pv, y_vc, e1, e2, e]
/-- a court's lean, as it is packed -/
def y_lv (xs : List Int32) (j : Nat) : Nat := (xs.getD (y_cc j) 0 + nI 9).toNatClampNeg
theorem y_lv_ok {xs : List Int32} {j : Nat} (L : Lnk xs) (hj : j < 12) : y_lv xs j < 19 ∧ xs.getD (y_cc j) 0 + nI 9 = nI (y_lv xs j) ∧ nI (y_lv xs j) - nI 9 = xs.getD (y_cc j) 0 := by
  obtain ⟨v, v1, v2⟩ := L.2.1 (y_cc j) (y_cc_ok hj).1
  have e : xs.getD (y_cc j) 0 + nI 9 = nI v := by rw [v2]; exact Int32.sub_add_cancel _ _
  have e2 : y_lv xs j = v := by rw [y_lv, e, m_cl (by omega)]
  rw [e2]
  exact ⟨v1, e, v2.symm⟩
/-- a word of t values -/
def y_wr (B : Nat) (g : Nat → Nat) (a : Nat) : Nat → Nat
  | 0 => 0
  | t + 1 => y_wr B g a t + 2 ^ (B * t) * g (a + t)
theorem y_wr_lt {B : Nat} {g : Nat → Nat} {a : Nat} : ∀ t, (∀ s, s < t → g (a + s) < 2 ^ B) → y_wr B g a t < 2 ^ (B * t)
  | 0, _ => by rw [Nat.mul_zero, y_wr]; decide
  | t + 1, h => by
    have h1 := y_wr_lt t (fun s hs => h s (by omega))
    have h2 := h t (by omega)
    rw [y_wr, show B * (t + 1) = B * t + B from rfl, Nat.pow_add]
    have h3 : 2 ^ (B * t) * (g (a + t) + 1) ≤ 2 ^ (B * t) * 2 ^ B := Nat.mul_le_mul_left _ h2
    rw [Nat.mul_add, Nat.mul_one] at h3
    omega
theorem y_or {w e v : Nat} (h : w < 2 ^ e) : nI w ||| nI (v * 2 ^ e) = nI (w + 2 ^ e * v) := by
  rw [m_or, Nat.or_comm, Nat.mul_comm v, ← Nat.two_pow_add_eq_or_of_lt h, Nat.add_comm]
theorem y_rd9 {g : Nat → Nat} {a t : Nat} (h : ∀ s, s < 3 → g (a + s) < 512) (ht : t < 3) : y_wr 9 g a 3 / 2 ^ (9 * t) % 512 = g (a + t) := by
  have h0 := h 0 (by decide)
  have h1 := h 1 (by decide)
  have h2 := h 2 (by decide)
  have e : y_wr 9 g a 3 = g (a + 0) + 512 * g (a + 1) + 262144 * g (a + 2) := by
    show 0 + 2 ^ (9 * 0) * g (a + 0) + 2 ^ (9 * 1) * g (a + 1) + 2 ^ (9 * 2) * g (a + 2) = _
    omega
  rw [e]
  have t3 : t = 0 ∨ t = 1 ∨ t = 2 := by omega
  rcases t3 with rfl | rfl | rfl
  · show (g (a + 0) + 512 * g (a + 1) + 262144 * g (a + 2)) / 1 % 512 = _
    omega
  · show (g (a + 0) + 512 * g (a + 1) + 262144 * g (a + 2)) / 512 % 512 = _
    omega
  · show (g (a + 0) + 512 * g (a + 1) + 262144 * g (a + 2)) / 262144 % 512 = _
    omega
theorem y_rd5 {g : Nat → Nat} {a t : Nat} (h : ∀ s, s < 6 → g (a + s) < 32) (ht : t < 6) : y_wr 5 g a 6 / 2 ^ (5 * t) % 32 = g (a + t) := by
  have h0 := h 0 (by decide)
  have h1 := h 1 (by decide)
  have h2 := h 2 (by decide)
  have h3 := h 3 (by decide)
  have h4 := h 4 (by decide)
  have h5 := h 5 (by decide)
  have e : y_wr 5 g a 6 = g (a + 0) + 32 * g (a + 1) + 1024 * g (a + 2) + 32768 * g (a + 3) + 1048576 * g (a + 4) + 33554432 * g (a + 5) := by
    show 0 + 2 ^ (5 * 0) * g (a + 0) + 2 ^ (5 * 1) * g (a + 1) + 2 ^ (5 * 2) * g (a + 2) + 2 ^ (5 * 3) * g (a + 3) + 2 ^ (5 * 4) * g (a + 4) + 2 ^ (5 * 5) * g (a + 5) = _
    omega
  rw [e]
  have t6 : t = 0 ∨ t = 1 ∨ t = 2 ∨ t = 3 ∨ t = 4 ∨ t = 5 := by omega
  rcases t6 with rfl | rfl | rfl | rfl | rfl | rfl
  · show (g (a + 0) + 32 * g (a + 1) + 1024 * g (a + 2) + 32768 * g (a + 3) + 1048576 * g (a + 4) + 33554432 * g (a + 5)) / 1 % 32 = _
    omega
  · show (g (a + 0) + 32 * g (a + 1) + 1024 * g (a + 2) + 32768 * g (a + 3) + 1048576 * g (a + 4) + 33554432 * g (a + 5)) / 32 % 32 = _
    omega
  · show (g (a + 0) + 32 * g (a + 1) + 1024 * g (a + 2) + 32768 * g (a + 3) + 1048576 * g (a + 4) + 33554432 * g (a + 5)) / 1024 % 32 = _
    omega
  · show (g (a + 0) + 32 * g (a + 1) + 1024 * g (a + 2) + 32768 * g (a + 3) + 1048576 * g (a + 4) + 33554432 * g (a + 5)) / 32768 % 32 = _
    omega
  · show (g (a + 0) + 32 * g (a + 1) + 1024 * g (a + 2) + 32768 * g (a + 3) + 1048576 * g (a + 4) + 33554432 * g (a + 5)) / 1048576 % 32 = _
    omega
  · show (g (a + 0) + 32 * g (a + 1) + 1024 * g (a + 2) + 32768 * g (a + 3) + 1048576 * g (a + 4) + 33554432 * g (a + 5)) / 33554432 % 32 = _
    omega
theorem y_mset : ∀ v, v < 16 → ∀ m, m < 4 → nI v ||| (nI 1 <<< (nI m &&& 31)) = nI (g_mset v m true) := by decide +kernel
/-- what row p holds of a sheet under way, from cell a on -/
def Yw (v v0 : List Int32) (a : Nat) (f1 f2 : Nat → Int32) : Prop := v.length = 60 ∧ (∀ j, j < 8 → v.getD (a + j) 0 = f1 j) ∧ (∀ j, j < 2 → v.getD (a + 8 + j) 0 = f2 j) ∧ ∀ j, (j < a ∨ a + 10 ≤ j) → v.getD j 0 = v0.getD j 0
theorem Yw.s1 {v v0 : List Int32} {a i : Nat} {f1 f2 g1 : Nat → Int32} {x : Int32} (h : Yw v v0 a f1 f2) (ha : a + 10 ≤ 60) (hi : i < 8) (hx : g1 i = x) (hg : ∀ j, j < 8 → j ≠ i → g1 j = f1 j) : Yw (v.set (a + i) x) v0 a g1 f2 := by
  obtain ⟨h1, h2, h3, h4⟩ := h
  refine ⟨(List.length_set ..).trans h1, fun j hj => ?_, fun j hj => ?_, fun j hj => ?_⟩
  · by_cases e : j = i
    · rw [e, y_at h1 (by omega), hx]
    · rw [y_off (by omega), h2 j hj, hg j hj e]
  · rw [y_off (by omega)]; exact h3 j hj
  · rw [y_off (by omega)]; exact h4 j hj
theorem Yw.s2 {v v0 : List Int32} {a i : Nat} {f1 f2 g2 : Nat → Int32} {x : Int32} (h : Yw v v0 a f1 f2) (ha : a + 10 ≤ 60) (hi : i < 2) (hx : g2 i = x) (hg : ∀ j, j < 2 → j ≠ i → g2 j = f2 j) : Yw (v.set (a + 8 + i) x) v0 a f1 g2 := by
  obtain ⟨h1, h2, h3, h4⟩ := h
  refine ⟨(List.length_set ..).trans h1, fun j hj => ?_, fun j hj => ?_, fun j hj => ?_⟩
  · rw [y_off (by omega)]; exact h2 j hj
  · by_cases e : j = i
    · rw [e, y_at h1 (by omega), hx]
    · rw [y_off (by omega), h3 j hj, hg j hj e]
  · rw [y_off (by omega)]; exact h4 j hj
def y_f1 (S : c_St) (tu : Bool) (k j : Nat) : Int32 := nI (y_wr 9 (y_pv S tu) (3 * j) (min (k - 3 * j) 3))
def y_f2 (xs : List Int32) (k j : Nat) : Int32 := nI (y_wr 5 (y_lv xs) (6 * j) (min (k - 6 * j) 6))
theorem y_f1_0 (S : c_St) (tu : Bool) (j : Nat) : y_f1 S tu 0 j = nI 0 := by rw [y_f1, Nat.zero_sub, Nat.zero_min]; rfl
theorem y_f2_0 (xs : List Int32) (j : Nat) : y_f2 xs 0 j = nI 0 := by rw [y_f2, Nat.zero_sub, Nat.zero_min]; rfl
theorem y_wr_s {B : Nat} {g : Nat → Nat} {a t b m : Nat} (hm : m = t + 1) (hb : b = a + t) : y_wr B g a m = y_wr B g a t + 2 ^ (B * t) * g b := by rw [hm, hb, y_wr]
theorem y_f1_s {n : List Nat} {p k : Nat} {S : c_St} {tu : Bool} (t : Tok n p S) (hk : k < 24) : y_f1 S tu (k + 1) (k / 3) = y_f1 S tu k (k / 3) ||| (nI (y_pv S tu k) <<< (nI (9 * (k % 3)) &&& 31)) := by
  have l := (y_pv_ok (tu := tu) t hk).2
  have lw : y_wr 9 (y_pv S tu) (3 * (k / 3)) (k % 3) < 2 ^ (9 * (k % 3)) := y_wr_lt (k % 3) (fun s hs => (y_pv_ok (tu := tu) t (by omega)).2)
  have lp : 2 ^ (9 * (k % 3)) ≤ 2 ^ 18 := Nat.pow_le_pow_right (by decide) (by omega)
  have lm : y_pv S tu k * 2 ^ (9 * (k % 3)) ≤ 512 * 2 ^ 18 := Nat.mul_le_mul (by omega) lp
  rw [pk_shlN _ (9 * (k % 3)) (y_smod _ (by omega)) (by omega), y_f1, y_f1, show min (k - 3 * (k / 3)) 3 = k % 3 by omega, y_or lw, y_wr_s (t := k % 3) (b := k) (by omega) (by omega)]
theorem y_f1_o {S : c_St} {tu : Bool} {k j : Nat} (h : j ≠ k / 3) : y_f1 S tu (k + 1) j = y_f1 S tu k j := by rw [y_f1, y_f1, show min (k + 1 - 3 * j) 3 = min (k - 3 * j) 3 by omega]
theorem y_f2_s {xs : List Int32} {k : Nat} (L : Lnk xs) (hk : k < 12) : y_f2 xs (k + 1) (k / 6) = y_f2 xs k (k / 6) ||| (nI (y_lv xs k) <<< (nI (5 * (k % 6)) &&& 31)) := by
  have l := (y_lv_ok L hk).1
  have lw : y_wr 5 (y_lv xs) (6 * (k / 6)) (k % 6) < 2 ^ (5 * (k % 6)) := y_wr_lt (k % 6) (fun s hs => by have := (y_lv_ok (j := 6 * (k / 6) + s) L (by omega)).1; omega)
  have lp : 2 ^ (5 * (k % 6)) ≤ 2 ^ 25 := Nat.pow_le_pow_right (by decide) (by omega)
  have lm : y_lv xs k * 2 ^ (5 * (k % 6)) ≤ 32 * 2 ^ 25 := Nat.mul_le_mul (by omega) lp
  rw [pk_shlN _ (5 * (k % 6)) (y_smod _ (by omega)) (by omega), y_f2, y_f2, show min (k - 6 * (k / 6)) 6 = k % 6 by omega, y_or lw, y_wr_s (t := k % 6) (b := k) (by omega) (by omega)]
theorem y_f2_o {xs : List Int32} {k j : Nat} (h : j ≠ k / 6) : y_f2 xs (k + 1) j = y_f2 xs k j := by rw [y_f2, y_f2, show min (k + 1 - 6 * j) 6 = min (k - 6 * j) 6 by omega]
theorem Yw.pk {n : List Nat} {p a : Nat} {S : c_St} {tu : Bool} {v v0 : List Int32} (t : Tok n p S) (L : Lnk (c_leans S)) (h : Yw v v0 (10 * a) (y_f1 S tu 24) (y_f2 (c_leans S) 12)) : Ypk v a (g_sheet S tu) := by
  obtain ⟨h1, h2, h3, h4⟩ := h
  refine ⟨fun i hi => ⟨_, ?_, (h2 i hi).trans (by rw [y_f1, show min (24 - 3 * i) 3 = 3 by omega]), fun s hs => ?_⟩, fun i hi => ⟨_, ?_, (h3 i hi).trans (by rw [y_f2, show min (12 - 6 * i) 6 = 6 by omega]), fun s hs => ?_⟩⟩
  · have := y_wr_lt (B := 9) (g := y_pv S tu) (a := 3 * i) 3 (fun s hs => (y_pv_ok (tu := tu) t (by omega)).2)
    exact Nat.lt_of_lt_of_le this (by decide)
  · rw [y_rd9 (fun s hs => (y_pv_ok (tu := tu) t (by omega)).2) hs]
    exact (y_pv_ok (tu := tu) t (by omega)).1
  · have := y_wr_lt (B := 5) (g := y_lv (c_leans S)) (a := 6 * i) 6 (fun s hs => by have := (y_lv_ok (j := 6 * i + s) L (by omega)).1; omega)
    exact Nat.lt_of_lt_of_le this (by decide)
  · rw [y_rd5 (fun s hs => by have := (y_lv_ok (j := 6 * i + s) L (by omega)).1; omega) hs]
    exact (y_lv_ok L (by omega)).2.2
/-- the backs with the wear -/
def y_wb (T : c_St) : List Nat := if 0 < (c_settings T).getD 0 0 ∧ c_printed T % (c_settings T).getD 0 0 = 0 then (c_backs T).set (c_printed T % 24) (g_mset ((c_backs T).getD (c_printed T % 24) 0) (c_printed T / (c_settings T).getD 0 0 % 4) true) else c_backs T
theorem g_wear_eq (T : c_St) : g_wear T = c_setBacks T (y_wb T) := by
  rw [g_wear, y_wb]
  by_cases c : 0 < (c_settings T).getD 0 0 ∧ c_printed T % (c_settings T).getD 0 0 = 0
  · rw [if_pos c, if_pos c]
  · rw [if_neg c, if_neg c]; rfl
/-- the state when a sheet was printed, before the wear -/
def g_prn (S : c_St) (k : Nat) : c_St := c_setPrinted (c_setPiled (c_setPile S ((c_pile S).set (c_piled S) (some k))) (c_piled S + 1)) (c_printed S + 1)
theorem y_shf {F F2 : Nat → c_Sh} {S T : c_St} (hf : c_fr T = c_fr S) (he : ∀ s, c_fr S = some s → g_sh F2 s = g_sh F s) : c_shf F2 T = c_shf F S := by
  unfold c_shf
  rw [hf]
  cases e : c_fr S with
  | none => rfl
  | some s => exact he s e
theorem Ypk.same {p v : List Int32} {j : Nat} {s : c_Sh} (h : Ypk p j s) (e : ∀ i, i < 10 → v.getD (10 * j + i) 0 = p.getD (10 * j + i) 0) : Ypk v j s := by
  obtain ⟨h1, h2⟩ := h
  refine ⟨fun i hi => ?_, fun i hi => ?_⟩
  · rw [e i (by omega)]; exact h1 i hi
  · have e2 := e (8 + i) (by omega)
    rw [← Nat.add_assoc] at e2
    rw [e2]; exact h2 i hi
theorem y_prn {n : List Nat} {p kk : Nat} {F F2 : Nat → c_Sh} {S : c_St} {tu : Bool} {R : y_R} {v q2 m2 : List Int32} {f1 f2 : Nat → Int32} (Y : Ry F S R) (t : Tok n p S) (hp : c_piled S < 6) (w : Yw v (y_p R) (10 * c_piled S) f1 f2) (pk : Ypk v (c_piled S) (g_sheet S tu)) (lq : q2.length = 12) (q4 : q2.getD 4 0 = nI (c_printed S + 1)) (q5 : q2.getD 5 0 = nI (c_piled S + 1)) (qo : ∀ j, j ≠ 4 → j ≠ 5 → q2.getD j 0 = (y_q R).getD j 0) (lm : m2.length = 24) (hm : ∀ k, k < 24 → m2.getD k 0 = nI ((y_wb (g_prn S kk)).getD k 0)) (e1 : ∀ j, j ∈ n → g_sh F2 j = g_sh F j) (e2 : g_sh F2 kk = g_sheet S tu) : Ry F2 (g_printed S kk) (y_mk q2 (y_b R) m2 (y_l R) v (y_c R) (y_g R) (y_h R)) := by
  obtain ⟨⟨o1, o2, o3, o4, o5, o6, o7, o8⟩, yq, yb, yp, yk⟩ := Y
  have l6 := t.1.2.2.2.2.2.2.2.1
  have es : c_shf F2 (c_setBacks (g_prn S kk) (y_wb (g_prn S kk))) = c_shf F S := y_shf rfl (fun s hs => e1 s (t.2.2.1.2.2 s hs))
  rw [show g_printed S kk = c_setBacks (g_prn S kk) (y_wb (g_prn S kk)) from g_wear_eq _]
  refine ⟨⟨lq, o2, lm, o4, w.1, o6, o7, o8⟩, ⟨fun k hk => (qo k (by omega) (by omega)).trans (yq.1 k hk), q4, q5, (qo 6 (by decide) (by decide)).trans yq.2.2.2.1, (qo 7 (by decide) (by decide)).trans yq.2.2.2.2.1, (qo 8 (by decide) (by decide)).trans yq.2.2.2.2.2.1, (qo 9 (by decide) (by decide)).trans yq.2.2.2.2.2.2.1, (qo 10 (by decide) (by decide)).trans yq.2.2.2.2.2.2.2⟩, ⟨yb.1, hm, yb.2.2⟩, fun j hj s hs => ?_, ⟨yk.1, fun hf => ?_⟩⟩
  · have hj2 : j < c_piled S + 1 := hj
    have hs2 : ((c_pile S).set (c_piled S) (some kk)).getD j none = some s := hs
    by_cases e : j = c_piled S
    · rw [e, List.getD_eq_getElem?_getD, List.getElem?_set_self (by omega)] at hs2
      have e3 : kk = s := Option.some.inj hs2
      rw [← e3, e2, e]
      exact pk
    · rw [List.getD_eq_getElem?_getD, List.getElem?_set_ne (Ne.symm e), ← List.getD_eq_getElem?_getD] at hs2
      obtain ⟨i, hi, ei⟩ := t.2.2.1.2.1 j (by omega)
      have e3 : i = s := Option.some.inj (ei.symm.trans hs2)
      rw [e1 s (e3 ▸ hi)]
      exact (yp j (by omega) s hs2).same (fun i hi => w.2.2.2 _ (Or.inl (by omega)))
  · obtain ⟨g1, g2, D, d1, d2, d3⟩ := yk.2 hf
    rw [es]
    exact ⟨g1, g2, D, d1, (qo 11 (by decide) (by decide)).trans d2, d3⟩
theorem y_prints {d : Nat} {n : List Nat} {p : Nat} {F : Nat → c_Sh} {S : c_St} {tu : Bool} {x : Int32} {R : y_R} {h : m_Hp} (H : Hrw h R) (Y : Ry F S R) (t : Tok n p S) (L : Lnk (c_leans S)) (hp : c_piled S < 6) (hpr : c_printed S + 1 < 2 ^ 30) (hx : x = m_bI tu) : ∃ r h', m_Call m_P (d + 1) 78 [.int x, .ref 61, .ref 62, .ref 63, .ref 64, .ref 65] (h) r h' ∧ (fun r h2 => r = none ∧ Chg 61 69 h h2 ∧ ∃ R2, Hrw h2 R2 ∧ ∀ F2 kk, (∀ j, j ∈ n → g_sh F2 j = g_sh F j) → g_sh F2 kk = g_sheet S tu → Ry F2 (g_printed S kk) R2) r h' := by
  refine m_call_ex (tab := tL_prints) (nL := 8) rfl rfl ?_
  subst hx
  obtain ⟨ok, yq, yb, yp, yk⟩ := id Y
  have l60 : (y_p R).length = 60 := ok.2.2.2.2.1
  have s0 := t.2.2.2.2.2.2
  have s1 := t.set_lt (k := 0) (by decide)
  refine m_E.run 3 (pc1 := 4) (ls1 := [some _, some _, some _, some _, some _, some _, none, none]) (st1 := [_, _, _]) rfl ?_
  refine m_E.yr H.1 ok.1 rfl (by omega) (by decide) (yq.2.2.1) rfl ?_
  refine m_E.run 4 (pc1 := 11) (ls1 := [some _, some _, some _, some _, some _, some _, some _, some _]) (st1 := []) rfl ?_
  dsimp only
  rw [pk_mul]
  refine m_E.lp (fun i ls hh => ls = [some (.int (m_bI tu)), some (.ref 61), some (.ref 62), some (.ref 63), some (.ref 64), some (.ref 65), some (.int (nI (10 * c_piled S))), some (.int (nI i))] ∧ (∃ v, Hrw hh (y_sp R v) ∧ Chg 61 69 h hh ∧ v.length = 60 ∧ (∀ j, j < i → v.getD (10 * c_piled S + j) 0 = nI 0) ∧ ∀ j, (j < 10 * c_piled S ∨ 10 * c_piled S + 10 ≤ j) → v.getD j 0 = (y_p R).getD j 0)) 10 ?_ ?_ ?_
  · skip
    rintro i _ hh hi ⟨rfl, hI⟩ K
    obtain ⟨v, g1, c1, lv, v1, v2⟩ := hI
    have hi : i < 10 := by assumption
    have ok1 : Okr (y_sp R v) := ok.vp lv
    refine m_E.run 2 (pc1 := 15) (ls1 := [some _, some _, some _, some _, some _, some _, some _, some _]) (st1 := [_, _]) rfl ?_
    refine m_E.icf ((m_leI (by omega) (by omega)).trans (decide_eq_false (by omega))) rfl ?_
    refine m_E.run 5 (pc1 := 26) (ls1 := [some _, some _, some _, some _, some _, some _, some _, some _]) (st1 := [_, _, _]) rfl ?_
    dsimp only
    rw [nI_add]
    refine m_E.yp g1 ok1 rfl (by omega) rfl (fun h2 g2 c2 => ?_)
    refine m_E.run 2 (pc1 := 11) (ls1 := [some _, some _, some _, some _, some _, some _, some _, some _]) (st1 := []) rfl ?_
    rw [nI_add]
    refine K _ _ ⟨rfl, v.set (10 * c_piled S + i) (nI 0), g2, c1.tr c2, (List.length_set ..).trans lv, fun j hj => ?_, fun j hj => ?_⟩
    · by_cases e : j = i
      · rw [e, y_at lv (by omega)]
      · rw [y_off (by omega)]; exact v1 j (by omega)
    · rw [y_off (by omega)]; exact v2 j hj
  · skip
    exact ⟨rfl, y_p R, H, Chg.rf, l60, fun j hj => absurd hj (Nat.not_lt_zero j), fun _ _ => rfl⟩
  · skip
    rintro _ hh ⟨rfl, hI⟩
    obtain ⟨v, g1, c1, lv, v1, v2⟩ := hI
    have w0 : Yw v (y_p R) (10 * c_piled S) (y_f1 S tu 0) (y_f2 (c_leans S) 0) := ⟨lv, fun j hj => (v1 j (by omega)).trans (y_f1_0 S tu j).symm, fun j hj => (by rw [Nat.add_assoc]; exact (v1 (8 + j) (by omega)).trans (y_f2_0 (c_leans S) j).symm), v2⟩
    refine m_E.run 2 (pc1 := 15) (ls1 := [some _, some _, some _, some _, some _, some _, some _, some _]) (st1 := [_, _]) rfl ?_
    refine m_E.ict (by decide) rfl ?_
    refine m_E.run 2 (pc1 := 36) (ls1 := [some _, some _, some _, some _, some _, some _, some _, some _]) (st1 := []) rfl ?_
    refine m_E.lp (fun i ls hh => ls = [some (.int (m_bI tu)), some (.ref 61), some (.ref 62), some (.ref 63), some (.ref 64), some (.ref 65), some (.int (nI (10 * c_piled S))), some (.int (nI i))] ∧ (∃ v, Hrw hh (y_sp R v) ∧ Chg 61 69 h hh ∧ Yw v (y_p R) (10 * c_piled S) (y_f1 S tu i) (y_f2 (c_leans S) 0))) 24 ?_ ?_ ?_
    · skip
      rintro i _ hh hi ⟨rfl, hI⟩ K
      obtain ⟨v, g1, c1, w1⟩ := hI
      have hi : i < 24 := by assumption
      have ok1 : Okr (y_sp R v) := ok.vp w1.1
      have tail : m_E (m_Call m_P d) tL_prints 76 [some (.int (m_bI tu)), some (.ref 61), some (.ref 62), some (.ref 63), some (.ref 64), some (.ref 65), some (.int (nI (10 * c_piled S))), some (.int (nI i))] [.int (nI ((c_backs S).getD (if tu then 23 - i else i) 0)), .int (nI 32), .int (nI ((c_cards S).getD i 0)), .int (y_f1 S tu i (i / 3)), .int (nI (10 * c_piled S + i / 3)), .ref 65] hh (fun r h2 => r = none ∧ Chg 61 69 h h2 ∧ ∃ R2, Hrw h2 R2 ∧ ∀ F2 kk, (∀ j, j ∈ n → g_sh F2 j = g_sh F j) → g_sh F2 kk = g_sheet S tu → Ry F2 (g_printed S kk) R2) := by
        refine m_E.run 5 (pc1 := 83) (ls1 := [some _, some _, some _, some _, some _, some _, some _, some _]) (st1 := [_, _, _, _, _, _, _]) rfl ?_
        dsimp only
        rw [pk_mul, nI_add]
        refine m_E.div (by decide) rfl ?_
        rw [m_rem (by omega) 3 (by decide) (by decide)]
        refine m_E.run 3 (pc1 := 87) (ls1 := [some _, some _, some _, some _, some _, some _, some _, some _]) (st1 := [_, _, _]) rfl ?_
        dsimp only
        rw [pk_mul, show nI ((c_cards S).getD i 0 + 32 * (c_backs S).getD (if tu then 23 - i else i) 0) = nI (y_pv S tu i) from rfl, ← y_f1_s (tu := tu) t hi]
        refine m_E.yp g1 ok1 rfl (by omega) rfl (fun h2 g2 c2 => ?_)
        refine m_E.run 2 (pc1 := 36) (ls1 := [some _, some _, some _, some _, some _, some _, some _, some _]) (st1 := []) rfl ?_
        rw [nI_add]
        exact K _ _ ⟨rfl, _, g2, c1.tr c2, w1.s1 (by omega) (by omega) rfl (fun j _ hj => y_f1_o hj)⟩
      refine m_E.run 2 (pc1 := 40) (ls1 := [some _, some _, some _, some _, some _, some _, some _, some _]) (st1 := [_, _]) rfl ?_
      refine m_E.icf ((m_leI (by omega) (by omega)).trans (decide_eq_false (by omega))) rfl ?_
      refine m_E.run 4 (pc1 := 50) (ls1 := [some _, some _, some _, some _, some _, some _, some _, some _]) (st1 := [_, _, _, _]) rfl ?_
      refine m_E.div (by decide) rfl ?_
      rw [pk_div (by omega) (by decide) (by decide)]
      refine m_E.run 2 (pc1 := 53) (ls1 := [some _, some _, some _, some _, some _, some _, some _, some _]) (st1 := [_, _, _, _]) rfl ?_
      dsimp only
      rw [nI_add]
      refine m_E.yr g1.2.2.2.2.1 ok1.2.2.2.2.1 rfl (by omega) (by decide) ((w1.2.1 (i / 3) (by omega))) rfl ?_
      refine m_E.run 2 (pc1 := 57) (ls1 := [some _, some _, some _, some _, some _, some _, some _, some _]) (st1 := [_, _, _, _, _]) rfl ?_
      refine m_E.yr g1.2.1 ok1.2.1 rfl (by omega) (by decide) ((yb.1 i hi)) rfl ?_
      refine m_E.run 3 (pc1 := 62) (ls1 := [some _, some _, some _, some _, some _, some _, some _, some _]) (st1 := [_, _, _, _, _, _, _]) rfl ?_
      cases tu
      · skip
        rw [if_neg (show ¬ false = true by decide)] at tail
        refine m_E.ift (rfl) rfl ?_
        refine m_E.run 1 (pc1 := 75) (ls1 := [some _, some _, some _, some _, some _, some _, some _, some _]) (st1 := [_, _, _, _, _, _, _]) rfl ?_
        refine m_E.yr g1.2.2.1 ok1.2.2.1 rfl (by omega) (by decide) ((yb.2.1 i hi)) rfl ?_
        exact tail
      · skip
        rw [if_pos (show true = true from rfl)] at tail
        refine m_E.iff (rfl) rfl ?_
        refine m_E.run 4 (pc1 := 75) (ls1 := [some _, some _, some _, some _, some _, some _, some _, some _]) (st1 := [_, _, _, _, _, _, _]) rfl ?_
        dsimp only
        rw [pk_sub (by omega)]
        refine m_E.yr g1.2.2.1 ok1.2.2.1 rfl (by omega) (by decide) ((yb.2.1 (23 - i) (by omega))) rfl ?_
        exact tail
    · skip
      exact ⟨rfl, v, g1, c1, w0⟩
    · skip
      rintro _ hh ⟨rfl, hI⟩
      obtain ⟨v, g1, c1, w1⟩ := hI
      refine m_E.run 2 (pc1 := 40) (ls1 := [some _, some _, some _, some _, some _, some _, some _, some _]) (st1 := [_, _]) rfl ?_
      refine m_E.ict (by decide) rfl ?_
      refine m_E.run 2 (pc1 := 97) (ls1 := [some _, some _, some _, some _, some _, some _, some _, some _]) (st1 := []) rfl ?_
      refine m_E.lp (fun i ls hh => ls = [some (.int (m_bI tu)), some (.ref 61), some (.ref 62), some (.ref 63), some (.ref 64), some (.ref 65), some (.int (nI (10 * c_piled S))), some (.int (nI i))] ∧ (∃ v, Hrw hh (y_sp R v) ∧ Chg 61 69 h hh ∧ Yw v (y_p R) (10 * c_piled S) (y_f1 S tu 24) (y_f2 (c_leans S) i))) 12 ?_ ?_ ?_
      · skip
        rintro i _ hh hi ⟨rfl, hI⟩ K
        obtain ⟨v, g1, c1, w1⟩ := hI
        have hi : i < 12 := by assumption
        have ok1 : Okr (y_sp R v) := ok.vp w1.1
        refine m_E.run 2 (pc1 := 101) (ls1 := [some _, some _, some _, some _, some _, some _, some _, some _]) (st1 := [_, _]) rfl ?_
        refine m_E.icf ((m_leI (by omega) (by omega)).trans (decide_eq_false (by omega))) rfl ?_
        refine m_E.run 6 (pc1 := 115) (ls1 := [some _, some _, some _, some _, some _, some _, some _, some _]) (st1 := [_, _, _, _]) rfl ?_
        dsimp only
        rw [nI_add]
        refine m_E.div (by decide) rfl ?_
        rw [pk_div (by omega) (by decide) (by decide)]
        refine m_E.run 2 (pc1 := 118) (ls1 := [some _, some _, some _, some _, some _, some _, some _, some _]) (st1 := [_, _, _, _]) rfl ?_
        dsimp only
        rw [nI_add]
        refine m_E.yr g1.2.2.2.2.1 ok1.2.2.2.2.1 rfl (by omega) (by decide) ((w1.2.2.1 (i / 6) (by omega))) rfl ?_
        refine m_E.run 2 (pc1 := 123) (ls1 := [some _, some _, some _, some _, some _, some _, some _, some _]) (st1 := [_, _, _, _, _]) rfl ?_
        refine m_E.yr g1.2.2.2.1 ok1.2.2.2.1 rfl (by omega) (by decide) ((yb.2.2 i hi)) rfl ?_
        refine m_E.run 5 (pc1 := 132) (ls1 := [some _, some _, some _, some _, some _, some _, some _, some _]) (st1 := [_, _, _, _, _, _, _]) rfl ?_
        dsimp only
        rw [(y_lv_ok L hi).2.1]
        refine m_E.div (by decide) rfl ?_
        rw [m_rem (by omega) 6 (by decide) (by decide)]
        refine m_E.run 3 (pc1 := 136) (ls1 := [some _, some _, some _, some _, some _, some _, some _, some _]) (st1 := [_, _, _]) rfl ?_
        dsimp only
        rw [pk_mul, ← y_f2_s L hi]
        refine m_E.yp g1 ok1 rfl (by omega) rfl (fun h2 g2 c2 => ?_)
        refine m_E.run 2 (pc1 := 97) (ls1 := [some _, some _, some _, some _, some _, some _, some _, some _]) (st1 := []) rfl ?_
        rw [nI_add]
        exact K _ _ ⟨rfl, _, g2, c1.tr c2, w1.s2 (by omega) (by omega) rfl (fun j _ hj => y_f2_o hj)⟩
      · skip
        exact ⟨rfl, v, g1, c1, w1⟩
      · skip
        rintro _ hh ⟨rfl, hI⟩
        obtain ⟨v, g1, c1, w1⟩ := hI
        have ok1 : Okr (y_sp R v) := ok.vp w1.1
        have pk := w1.pk t L
        refine m_E.run 2 (pc1 := 101) (ls1 := [some _, some _, some _, some _, some _, some _, some _, some _]) (st1 := [_, _]) rfl ?_
        refine m_E.ict (by decide) rfl ?_
        refine m_E.run 3 (pc1 := 146) (ls1 := [some _, some _, some _, some _, some _, some _, some _, some _]) (st1 := [_, _, _, _]) rfl ?_
        refine m_E.yr g1.1 ok1.1 rfl (by omega) (by decide) (yq.2.2.1) rfl ?_
        refine m_E.run 2 (pc1 := 149) (ls1 := [some _, some _, some _, some _, some _, some _, some _, some _]) (st1 := [_, _, _]) rfl ?_
        dsimp only
        rw [nI_add]
        refine m_E.yq g1 ok1 rfl (by omega) rfl (fun h2 g2 c2 => ?_)
        have ok2 := ok1.wq (j := 5) (x := nI (c_piled S + 1))
        have lq2 : ((y_q R).set 5 (nI (c_piled S + 1))).length = 12 := (List.length_set ..).trans ok.1
        refine m_E.run 3 (pc1 := 153) (ls1 := [some _, some _, some _, some _, some _, some _, some _, some _]) (st1 := [_, _, _, _]) rfl ?_
        refine m_E.yr g2.1 ok2.1 rfl (by omega) (by decide) (((y_off (by decide)).trans yq.2.1)) rfl ?_
        refine m_E.run 2 (pc1 := 156) (ls1 := [some _, some _, some _, some _, some _, some _, some _, some _]) (st1 := [_, _, _]) rfl ?_
        dsimp only
        rw [nI_add]
        refine m_E.yq g2 ok2 rfl (by omega) rfl (fun h3 g3 c3 => ?_)
        have ok3 := ok2.wq (j := 4) (x := nI (c_printed S + 1))
        have q40 : (((y_q R).set 5 (nI (c_piled S + 1))).set 4 (nI (c_printed S + 1))).getD 4 0 = nI (c_printed S + 1) := y_at lq2 (by decide)
        have q50 : (((y_q R).set 5 (nI (c_piled S + 1))).set 4 (nI (c_printed S + 1))).getD 5 0 = nI (c_piled S + 1) := (y_off (by decide)).trans (y_at ok.1 (by decide))
        have qo : ∀ j, j ≠ 4 → j ≠ 5 → (((y_q R).set 5 (nI (c_piled S + 1))).set 4 (nI (c_printed S + 1))).getD j 0 = (y_q R).getD j 0 := fun j h4 h5 => (y_off (Ne.symm h4)).trans (y_off (Ne.symm h5))
        have q00 := (qo 0 (by decide) (by decide)).trans (yq.1 0 (by decide))
        have lq3 : (((y_q R).set 5 (nI (c_piled S + 1))).set 4 (nI (c_printed S + 1))).length = 12 := (List.length_set ..).trans lq2
        refine m_E.run 2 (pc1 := 159) (ls1 := [some _, some _, some _, some _, some _, some _, some _, some _]) (st1 := [_, _]) rfl ?_
        refine m_E.yr g3.1 ok3.1 rfl (by omega) (by decide) (q40) rfl ?_
        refine m_E.run 2 (pc1 := 162) (ls1 := [some _, some _, some _, some _, some _, some _, some _, some _]) (st1 := [_, _, _]) rfl ?_
        refine m_E.yr g3.1 ok3.1 rfl (by omega) (by decide) (q00) rfl ?_
        refine m_E.div (m_ne0 s0 (by omega)) rfl ?_
        rw [m_rem (by omega) _ s0 (by omega)]
        by_cases e0 : (c_printed S + 1) % (c_settings S).getD 0 0 = 0
        · skip
          refine m_E.iff (by rw [e0]; rfl) rfl ?_
          refine m_E.run 3 (pc1 := 170) (ls1 := [some _, some _, some _, some _, some _, some _, some _, some _]) (st1 := [_, _, _]) rfl ?_
          refine m_E.yr g3.1 ok3.1 rfl (by omega) (by decide) (q40) rfl ?_
          refine m_E.run 1 (pc1 := 173) (ls1 := [some _, some _, some _, some _, some _, some _, some _, some _]) (st1 := [_, _, _]) rfl ?_
          refine m_E.div (by decide) rfl ?_
          rw [m_rem (by omega) 24 (by decide) (by decide)]
          refine m_E.run 1 (pc1 := 175) (ls1 := [some _, some _, some _, some _, some _, some _, some _, some _]) (st1 := [_, _, _, _]) rfl ?_
          refine m_E.yr g3.2.2.1 ok3.2.2.1 rfl (by omega) (by decide) ((yb.2.1 ((c_printed S + 1) % 24) (by omega))) rfl ?_
          refine m_E.run 3 (pc1 := 179) (ls1 := [some _, some _, some _, some _, some _, some _, some _, some _]) (st1 := [_, _, _, _, _, _]) rfl ?_
          refine m_E.yr g3.1 ok3.1 rfl (by omega) (by decide) (q40) rfl ?_
          refine m_E.run 2 (pc1 := 182) (ls1 := [some _, some _, some _, some _, some _, some _, some _, some _]) (st1 := [_, _, _, _, _, _, _]) rfl ?_
          refine m_E.yr g3.1 ok3.1 rfl (by omega) (by decide) (q00) rfl ?_
          refine m_E.div (m_ne0 s0 (by omega)) rfl ?_
          rw [pk_div (by omega) s0 (by omega)]
          refine m_E.run 1 (pc1 := 185) (ls1 := [some _, some _, some _, some _, some _, some _, some _, some _]) (st1 := [_, _, _, _, _, _]) rfl ?_
          refine m_E.div (by decide) rfl ?_
          rw [m_rem (Nat.lt_of_le_of_lt (Nat.div_le_self _ _) (by omega)) 4 (by decide) (by decide)]
          refine m_E.run 2 (pc1 := 188) (ls1 := [some _, some _, some _, some _, some _, some _, some _, some _]) (st1 := [_, _, _]) rfl ?_
          dsimp only
          rw [y_mset _ (t.bck _ (by omega)) _ (by omega)]
          refine m_E.ym g3 ok3 rfl (by omega) rfl (fun h4 g4 c4 => ?_)
          have cc : ∀ kk, 0 < (c_settings (g_prn S kk)).getD 0 0 ∧ c_printed (g_prn S kk) % (c_settings (g_prn S kk)).getD 0 0 = 0 := fun kk => ⟨s0, e0⟩
          exact m_E.vret rfl ⟨rfl, c1.tr (c2.tr (c3.tr c4)), _, g4, fun F2 kk z1 z2 => y_prn (R := R) (v := v) (S := S) (tu := tu) Y t hp w1 pk lq3 q40 q50 qo ((List.length_set ..).trans ok.2.2.1) (fun k hk => by rw [y_wb, if_pos (cc kk)]; show ((y_m R).set ((c_printed S + 1) % 24) _).getD k 0 = nI (((c_backs S).set ((c_printed S + 1) % 24) _).getD k 0); by_cases ek : k = (c_printed S + 1) % 24; rw [ek, y_at ok.2.2.1 (by omega), g_set_at (by have := t.1.2.2.2.1; omega)]; rfl; rw [y_off (Ne.symm ek), g_set_off (Ne.symm ek)]; exact yb.2.1 k hk) z1 z2⟩
        · skip
          refine m_E.ift (by rw [m_beq0 (Nat.lt_of_lt_of_le (Nat.mod_lt _ s0) (by omega)), decide_eq_false e0]; rfl) rfl ?_
          have cc : ∀ kk, ¬ (0 < (c_settings (g_prn S kk)).getD 0 0 ∧ c_printed (g_prn S kk) % (c_settings (g_prn S kk)).getD 0 0 = 0) := fun kk z => e0 z.2
          exact m_E.vret rfl ⟨rfl, c1.tr (c2.tr c3), _, g3, fun F2 kk z1 z2 => y_prn (R := R) (v := v) (S := S) (tu := tu) Y t hp w1 pk lq3 q40 q50 qo ok.2.2.1 (fun k hk => by rw [y_wb, if_neg (cc kk)]; exact yb.2.1 k hk) z1 z2⟩
