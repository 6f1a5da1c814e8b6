/-! how the model's object stands to the class's -/
section
variable {F : Nat → c_Sh} {S : c_St} {r r2 : List Int32}
def EncB (S : c_St) (r : List Int32) : Prop := (∀ k, k < 4 → r.getD k 0 = nI ((c_settings S).getD k 0)) ∧ (∀ k, k < 24 → r.getD (11 + k) 0 = nI ((c_cards S).getD k 0)) ∧ (∀ k, k < 24 → r.getD (35 + k) 0 = (c_leans S).getD k 0) ∧ (∀ k, k < 24 → r.getD (59 + k) 0 = nI ((c_backs S).getD k 0))
def EncN (S : c_St) (r : List Int32) : Prop := r.getD 4 0 = nI (c_printed S) ∧ r.getD 5 0 = nI (c_piled S) ∧ r.getD 8 0 = c_sold S ∧ r.getD 9 0 = c_pulped S ∧ r.getD 10 0 = c_coins S
def EncP (F : Nat → c_Sh) (S : c_St) (r : List Int32) : Prop := r.getD 6 0 = (if c_fr S = none then nI 0 else nI 1) ∧ r.getD 7 0 = nI (c_lf S) ∧ (∀ k, k < c_lf S → r.getD (83 + k) 0 = nI ((c_order S).getD (c_dealt S + k) 0)) ∧ (∀ s, c_fr S = some s → (∀ k, k < 24 → r.getD (107 + k) 0 = (g_sh F s).2.2.getD k 0) ∧ (∀ k, k < 24 → r.getD (131 + k) 0 = nI ((g_sh F s).2.1.getD k 0)) ∧ (∀ k, k < 24 → r.getD (155 + (c_order S).getD k 0) 0 = nI (if k < c_dealt S then 1 else 0)))
def EncL (F : Nat → c_Sh) (S : c_St) (r : List Int32) : Prop := ∀ j, j < c_piled S → ∀ s, (c_pile S).getD j none = some s → ∀ k, k < 24 → r.getD (179 + 72 * j + k) 0 = nI ((g_sh F s).1.getD k 0) ∧ r.getD (203 + 72 * j + k) 0 = (g_sh F s).2.2.getD k 0 ∧ r.getD (227 + 72 * j + k) 0 = nI ((g_sh F s).2.1.getD ((g_sh F s).1.getD k 0) 0)
theorem Enc.to (E : Enc F S r) : r.length = 611 ∧ EncB S r ∧ EncN S r ∧ EncP F S r ∧ EncL F S r := by
  obtain ⟨e1, e2, e3, e4, e5, e6, e7, e8, e9, e10, e11, e12, e13, e14, e15⟩ := E
  exact ⟨e1, ⟨e2, e10, e11, e12⟩, ⟨e3, e4, e7, e8, e9⟩, ⟨e5, e6, e13, e14⟩, e15⟩
theorem Enc.of (h1 : r.length = 611) (b : EncB S r) (n : EncN S r) (p : EncP F S r) (l : EncL F S r) : Enc F S r := by
  obtain ⟨b1, b2, b3, b4⟩ := b
  obtain ⟨n1, n2, n3, n4, n5⟩ := n
  obtain ⟨p1, p2, p3, p4⟩ := p
  exact ⟨h1, b1, n1, n2, p1, p2, n3, n4, n5, b2, b3, b4, p3, p4, l⟩
theorem EncB.same (b : EncB S r) (h : ∀ i, i < 4 ∨ (11 ≤ i ∧ i < 83) → r2.getD i 0 = r.getD i 0) : EncB S r2 := by
  obtain ⟨b1, b2, b3, b4⟩ := b
  exact ⟨fun k hk => (h _ (by omega)).trans (b1 k hk), fun k hk => (h _ (by omega)).trans (b2 k hk), fun k hk => (h _ (by omega)).trans (b3 k hk), fun k hk => (h _ (by omega)).trans (b4 k hk)⟩
theorem EncN.same (b : EncN S r) (h : ∀ i, i = 4 ∨ i = 5 ∨ i = 8 ∨ i = 9 ∨ i = 10 → r2.getD i 0 = r.getD i 0) : EncN S r2 := by
  obtain ⟨n1, n2, n3, n4, n5⟩ := b
  exact ⟨(h _ (by omega)).trans n1, (h _ (by omega)).trans n2, (h _ (by omega)).trans n3, (h _ (by omega)).trans n4, (h _ (by omega)).trans n5⟩
theorem EncP.same {n p : Nat} (b : EncP F S r) (t : Tok n p S) (h : ∀ i, i = 6 ∨ i = 7 ∨ (83 ≤ i ∧ i < 179) → r2.getD i 0 = r.getD i 0) : EncP F S r2 := by
  obtain ⟨p1, p2, p3, p4⟩ := b
  have ll : c_lf S ≤ 24 := g_left_le _ _
  exact ⟨(h _ (by omega)).trans p1, (h _ (by omega)).trans p2, fun k hk => (h _ (by omega)).trans (p3 k hk), fun s hs => ⟨fun k hk => (h _ (by omega)).trans ((p4 s hs).1 k hk), fun k hk => (h _ (by omega)).trans ((p4 s hs).2.1 k hk), fun k hk => (h _ (by have := t.ord k hk; omega)).trans ((p4 s hs).2.2 k hk)⟩⟩
theorem EncL.same (b : EncL F S r) (h : ∀ i, 179 ≤ i → r2.getD i 0 = r.getD i 0) : EncL F S r2 := fun j hj s hs k hk => ⟨(h _ (by omega)).trans (b j hj s hs k hk).1, (h _ (by omega)).trans (b j hj s hs k hk).2.1, (h _ (by omega)).trans (b j hj s hs k hk).2.2⟩
theorem Enc.wcards {n p : Nat} (E : Enc F S r) (t : Tok n p S) {v : List Nat} (hl : r2.length = 611) (ho : ∀ i, i < 11 ∨ 35 ≤ i → r2.getD i 0 = r.getD i 0) (hn : ∀ k, k < 24 → r2.getD (11 + k) 0 = nI (v.getD k 0)) : Enc F (c_setCards S v) r2 := by
  obtain ⟨_, ⟨b1, b2, b3, b4⟩, en, ep, el⟩ := E.to
  exact Enc.of hl ⟨fun k hk => (ho _ (by omega)).trans (b1 k hk), hn, fun k hk => (ho _ (by omega)).trans (b3 k hk), fun k hk => (ho _ (by omega)).trans (b4 k hk)⟩ (en.same fun i hi => ho i (by omega)) (ep.same t fun i hi => ho i (by omega)) (el.same fun i hi => ho i (by omega))
theorem Enc.wleans {n p : Nat} (E : Enc F S r) (t : Tok n p S) {v : List Int32} (hl : r2.length = 611) (ho : ∀ i, i < 35 ∨ 59 ≤ i → r2.getD i 0 = r.getD i 0) (hn : ∀ k, k < 24 → r2.getD (35 + k) 0 = v.getD k 0) : Enc F (c_setLeans S v) r2 := by
  obtain ⟨_, ⟨b1, b2, b3, b4⟩, en, ep, el⟩ := E.to
  exact Enc.of hl ⟨fun k hk => (ho _ (by omega)).trans (b1 k hk), fun k hk => (ho _ (by omega)).trans (b2 k hk), hn, fun k hk => (ho _ (by omega)).trans (b4 k hk)⟩ (en.same fun i hi => ho i (by omega)) (ep.same t fun i hi => ho i (by omega)) (el.same fun i hi => ho i (by omega))
theorem Enc.wbacks {n p : Nat} (E : Enc F S r) (t : Tok n p S) {v : List Nat} (hl : r2.length = 611) (ho : ∀ i, i < 59 ∨ 83 ≤ i → r2.getD i 0 = r.getD i 0) (hn : ∀ k, k < 24 → r2.getD (59 + k) 0 = nI (v.getD k 0)) : Enc F (c_setBacks S v) r2 := by
  obtain ⟨_, ⟨b1, b2, b3, b4⟩, en, ep, el⟩ := E.to
  exact Enc.of hl ⟨fun k hk => (ho _ (by omega)).trans (b1 k hk), fun k hk => (ho _ (by omega)).trans (b2 k hk), fun k hk => (ho _ (by omega)).trans (b3 k hk), hn⟩ (en.same fun i hi => ho i (by omega)) (ep.same t fun i hi => ho i (by omega)) (el.same fun i hi => ho i (by omega))
theorem Enc.wset {n p : Nat} (E : Enc F S r) (t : Tok n p S) {v : List Nat} (hl : r2.length = 611) (ho : ∀ i, 4 ≤ i → r2.getD i 0 = r.getD i 0) (hn : ∀ k, k < 4 → r2.getD k 0 = nI (v.getD k 0)) : Enc F (c_setSettings S v) r2 := by
  obtain ⟨_, ⟨b1, b2, b3, b4⟩, en, ep, el⟩ := E.to
  exact Enc.of hl ⟨hn, fun k hk => (ho _ (by omega)).trans (b2 k hk), fun k hk => (ho _ (by omega)).trans (b3 k hk), fun k hk => (ho _ (by omega)).trans (b4 k hk)⟩ (en.same fun i hi => ho i (by omega)) (ep.same t fun i hi => ho i (by omega)) (el.same fun i hi => ho i (by omega))
end
theorem g_so {l : List Int32} {a i : Nat} {v : Int32} (h : i ≠ a) : (l.set a v).getD i 0 = l.getD i 0 := by
  rw [List.getD_eq_getElem?_getD, List.getElem?_set_ne (Ne.symm h), List.getD_eq_getElem?_getD]
/-- the history -/
def Hrl (F : Nat → c_Sh) (W : c_W) (M : c_M) : Prop := d_many M = w_size W ∧ w_next W < 4 ∧ w_size W ≤ 4 ∧ ∀ j, j < w_size W → Enc F (w_ring W ((w_next W + 3 - j) % 4)) (g_slot (d_hist M) (w_size W - 1 - j))
def Trl (W : c_W) (M : c_M) : Prop := d_len M = x_len (w_text W) ∧ d_text M = x_signs (w_text W)
def Krl (F : Nat → c_Sh) (W : c_W) (M : c_M) : Prop := d_has M = w_kept W ∧ (w_kept W = true → Enc F (w_snap W) (d_snap M))
def Rl (F : Nat → c_Sh) (W : c_W) (M : c_M) : Prop := Enc F (w_now W) (d_state M) ∧ Hrl F W M ∧ Krl F W M ∧ Trl W M
theorem g_slot_into {hist row : List Int32} {m i : Nat} (hl : hist.length = 2444) (hr : row.length = 611) (hm : m < 4) (hi : i < 4) : g_slot (g_hput hist m row) i = if i = m then row else g_slot hist i := by
  have lg := g_into_len (i := 611) hl hr hm (Nat.le_refl _)
  have key : ∀ k, k < 611 → (g_slot (g_hput hist m row) i)[k]? = (if i = m then row else g_slot hist i)[k]? := by
    intro k hk
    have h1 : (hist.take (611 * m)).length = 611 * m := by rw [List.length_take]; omega
    have h2 : (row.take 611).length = 611 := by rw [List.length_take]; omega
    rw [g_slot, List.getElem?_take, if_pos hk, List.getElem?_drop, g_hput, g_into]
    by_cases e : i = m
    · rw [if_pos e, e, List.getElem?_append_right (by omega), h1, Nat.add_sub_cancel_left, List.getElem?_append_left (by omega), List.getElem?_take, if_pos hk]
    · rw [if_neg e, g_slot, List.getElem?_take, if_pos hk, List.getElem?_drop]
      by_cases z : i < m
      · rw [List.getElem?_append_left (by omega), List.getElem?_take, if_pos (by omega)]
      · rw [List.getElem?_append_right (by omega), h1, List.getElem?_append_right (by omega), h2, List.getElem?_drop, List.getElem?_drop, show 611 * m + (611 + (611 * i + k - 611 * m - 611)) = 611 * i + k by omega]
  have l1 : (g_slot (g_hput hist m row) i).length = 611 := g_slot_len lg hi
  have l2 : (if i = m then row else g_slot hist i).length = 611 := by split; exact hr; exact g_slot_len hl hi
  apply List.ext_getElem?
  intro k
  by_cases z : k < 611
  · exact key k z
  · rw [List.getElem?_eq_none (by omega), List.getElem?_eq_none (by omega)]
theorem g_slot_shift {hist : List Int32} {i : Nat} (hl : hist.length = 2444) (hi : i < 3) : g_slot (g_shift hist) i = g_slot hist (i + 1) := by
  apply List.ext_getElem?
  intro k
  rw [g_slot, g_slot, List.getElem?_take, List.getElem?_take]
  by_cases z : k < 611
  · rw [if_pos z, if_pos z, List.getElem?_drop, List.getElem?_drop, g_shift, List.getElem?_append_left (by rw [List.length_drop]; omega), List.getElem?_drop, show 611 + (611 * i + k) = 611 * (i + 1) + k by omega]
  · rw [if_neg z, if_neg z]
theorem g_shift_len {hist : List Int32} (hl : hist.length = 2444) : (g_shift hist).length = 2444 := by rw [g_shift, List.length_append, List.length_drop, List.length_drop]; omega
theorem d_push_state (M : c_M) : d_state (d_push M) = d_state M := by rw [d_push]; split <;> rfl
theorem d_push_has (M : c_M) : d_has (d_push M) = d_has M := by rw [d_push]; split <;> rfl
theorem d_push_snap (M : c_M) : d_snap (d_push M) = d_snap M := by rw [d_push]; split <;> rfl
theorem d_push_text (M : c_M) : d_text (d_push M) = d_text M := by rw [d_push]; split <;> rfl
theorem d_push_len (M : c_M) : d_len (d_push M) = d_len M := by rw [d_push]; split <;> rfl
theorem Hrl.push {F : Nat → c_Sh} {W : c_W} {M : c_M} (R : Hrl F W M) (ok : Okm M) (E : Enc F (w_now W) (d_spare M)) : Hrl F (w_rec W) (d_push M) := by
  obtain ⟨r1, r2, r3, r4⟩ := R
  obtain ⟨k1, k2, k3, k4, k5, k6, k7, k8, k9, k10⟩ := ok
  have ex : ∃ hist m, m < 4 ∧ hist.length = 2444 ∧ d_push M = d_push1 M hist m ∧ min (w_size W + 1) 4 = m + 1 ∧ ∀ j, j < m → Enc F (w_ring W ((w_next W + 3 - j) % 4)) (g_slot hist (m - 1 - j)) := by
    by_cases e : d_many M = 4
    · refine ⟨g_shift (d_hist M), 3, by decide, g_shift_len k3, by rw [d_push, if_pos e], by omega, fun j hj => ?_⟩
      rw [g_slot_shift k3 (by omega), show 3 - 1 - j + 1 = w_size W - 1 - j by omega]
      exact r4 j (by omega)
    · exact ⟨d_hist M, d_many M, by omega, k3, by rw [d_push, if_neg e], by omega, fun j hj => by rw [show d_many M - 1 - j = w_size W - 1 - j by omega]; exact r4 j (by omega)⟩
  obtain ⟨hist, m, hm, hl, ed, es, ho⟩ := ex
  rw [ed]
  have hsz : w_size (w_rec W) = m + 1 := es
  refine ⟨hsz.symm, Nat.mod_lt _ (by decide), by omega, fun j hj => ?_⟩
  rw [hsz] at hj ⊢
  show Enc F (g_upd (w_ring W) (w_next W) (w_now W) (((w_next W + 1) % 4 + 3 - j) % 4)) (g_slot (g_hput hist m (d_spare M)) (m + 1 - 1 - j))
  rw [g_slot_into hl k2 hm (by omega)]
  by_cases e : j = 0
  · subst e
    rw [if_pos (by omega), show ((w_next W + 1) % 4 + 3 - 0) % 4 = w_next W by omega, g_upd_at]
    exact E
  · rw [if_neg (by omega), g_upd_off _ _ (by omega)]
    have q := ho (j - 1) (by omega)
    rw [show (w_next W + 3 - (j - 1)) % 4 = ((w_next W + 1) % 4 + 3 - j) % 4 by omega, show m - 1 - (j - 1) = m + 1 - 1 - j by omega] at q
    exact q
theorem Rl.push {F : Nat → c_Sh} {W : c_W} {M : c_M} {S : c_St} (ok : Okm M) (E : Enc F (w_now W) (d_spare M)) (E2 : Enc F S (d_state M)) (R : Hrl F W M) (K : Krl F W M) (T : Trl W M) : Rl F (w_S (w_rec W) S) (d_push M) := by
  refine ⟨by rw [d_push_state]; exact E2, R.push ok E, ?_, ?_⟩
  · unfold Krl; rw [d_push_has, d_push_snap]; exact K
  · unfold Trl; rw [d_push_len, d_push_text]; exact T
theorem Rl.rec {F : Nat → c_Sh} {W : c_W} {M : c_M} (R : Rl F W M) (ok : Okm M) : Rl F (w_rec W) (d_rec M) :=
  Rl.push (M := d_set_spare M (d_state M)) (S := w_now W) ok.aside R.1 R.1 R.2.1 R.2.2.1 R.2.2.2
theorem Rl.setS {F : Nat → c_Sh} {W : c_W} {M : c_M} (R : Rl F W M) {S : c_St} {r : List Int32} (E : Enc F S r) : Rl F (w_S W S) (d_set_state M r) := ⟨E, R.2⟩
theorem Rl.seen {F : Nat → c_Sh} {W : c_W} {M : c_M} (R : Rl F W M) (r : List Int32) : Rl F W (d_set_seen M r) := R
theorem Rl.order {F : Nat → c_Sh} {W : c_W} {M : c_M} (R : Rl F W M) (r : List Int32) : Rl F W (d_set_order M r) := R
theorem Rl.grow {F : Nat → c_Sh} {W : c_W} {M : c_M} {n p : Nat} {s : c_Sh} (R : Rl F W M) (ok : Okw n p W) : Rl (g_upd F n s) W M := by
  obtain ⟨r1, ⟨r2, r3, r4, r5⟩, ⟨r6, r7⟩, r8⟩ := R
  exact ⟨r1.grow ok.1, ⟨r2, r3, r4, fun j hj => (r5 j hj).grow (ok.2.2.1 _ (Nat.mod_lt _ (by decide)))⟩, ⟨r6, fun z => (r7 z).grow ok.2.1⟩, r8⟩
/-- what a call of the model leaves -/
def Opm (F : Nat → c_Sh) (W2 : c_W) (h : m_Hp) (v : Int32) : Option Value → m_Hp → Prop := fun r h2 => r = some (.int v) ∧ ∃ M2, Hmo h2 M2 ∧ Okm M2 ∧ Rl F W2 M2 ∧ Chg 61 69 h h2
theorem e_rec2 {d : Nat} {F : Nat → c_Sh} {W : c_W} {M : c_M} {h : m_Hp} (H : Hmo h M) (ok : Okm M) (R : Rl F W M) : ∃ h2 M2, m_Call m_P (d + 2) 104 [.ref 61] h none h2 ∧ Hmo h2 M2 ∧ Okm M2 ∧ Rl F (w_rec W) M2 ∧ Chg 61 69 h h2 := by
  obtain ⟨_, h2, p, rfl, H2, c⟩ := e_record (d := d) H ok
  exact ⟨h2, _, p, H2, ok.rec, R.rec ok, c⟩
theorem Opm.same {F : Nat → c_Sh} {W : c_W} {M : c_M} {h : m_Hp} {v : Int32} (H : Hmo h M) (ok : Okm M) (R : Rl F W M) : Opm F W h v (some (.int v)) h := ⟨rfl, M, H, ok, R, Chg.rf⟩
theorem e_undo2 {d : Nat} {F : Nat → c_Sh} {W : c_W} {M : c_M} {h : m_Hp} (H : Hmo h M) (ok : Okm M) (R : Rl F W M) (hf : 0 < w_size W) : ∃ r h', m_Call m_P (d + 1) 105 [.ref 61] h r h' ∧ Opm F (w_undo W) h (nI (w_size W - 1)) r h' := by
  obtain ⟨r1, ⟨r2, r3, r4, r5⟩, r6, r7⟩ := R
  obtain ⟨_, h2, p, rfl, H2, c⟩ := e_undo (d := d) H ok (by omega)
  have k3 := ok.2.2.1
  have lsl := g_slot_len (m := d_many M - 1) k3 (by omega)
  have e0 := r5 0 hf
  rw [Nat.sub_zero, Nat.sub_zero] at e0
  rw [r2] at p
  refine ⟨_, h2, p, rfl, _, H2, ?_, ⟨?_, ⟨?_, ?_, ?_, fun j hj => ?_⟩, r6, r7⟩, c⟩
  · obtain ⟨k1, k2, k3, k4, k5, k6, k7, k8, k9, k10⟩ := ok
    exact ⟨lsl, k2, k3, by show d_many M - 1 ≤ 4; omega, k5, k6, k7, k8, k9, k10⟩
  · show Enc F (w_ring W ((w_next W + 3) % 4)) (g_slot (d_hist M) (d_many M - 1))
    rw [r2]; exact e0
  · show d_many M - 1 = w_size W - 1
    omega
  · exact Nat.mod_lt _ (by decide)
  · show w_size W - 1 ≤ 4
    omega
  · have hj2 : j < w_size W - 1 := hj
    have q := r5 (j + 1) (by omega)
    show Enc F (w_ring W (((w_next W + 3) % 4 + 3 - j) % 4)) (g_slot (d_hist M) (w_size W - 1 - 1 - j))
    rw [show ((w_next W + 3) % 4 + 3 - j) % 4 = (w_next W + 3 - (j + 1)) % 4 by omega, show w_size W - 1 - 1 - j = w_size W - 1 - (j + 1) by omega]
    exact q
theorem e_keep2 {d : Nat} {F : Nat → c_Sh} {W : c_W} {M : c_M} {h : m_Hp} (H : Hmo h M) (ok : Okm M) (R : Rl F W M) : ∃ r h', m_Call m_P (d + 1) 106 [.ref 61] h r h' ∧ Opm F (w_keep W) h (nI (c_printed (w_now W))) r h' := by
  obtain ⟨r1, r2, r6, r7⟩ := R
  obtain ⟨_, h2, p, rfl, H2, c⟩ := e_keep (d := d) H ok
  rw [r1.prt] at p
  refine ⟨_, h2, p, rfl, _, H2, ?_, ⟨r1, r2, ⟨rfl, fun _ => r1⟩, r7⟩, c⟩
  obtain ⟨k1, k2, k3, k4, k5, k6, k7, k8, k9, k10⟩ := ok
  exact ⟨k1, k2, k3, k4, k1, k6, k7, k8, k9, k10⟩
theorem e_restore2 {d : Nat} {F : Nat → c_Sh} {W : c_W} {M : c_M} {h : m_Hp} (H : Hmo h M) (ok : Okm M) (R : Rl F W M) (hf : w_kept W = true) : ∃ r h', m_Call m_P (d + 3) 107 [.ref 61] h r h' ∧ Opm F (w_res W (some (w_snap W))) h (nI (c_printed (w_snap W))) r h' := by
  have Rr := R.rec ok
  obtain ⟨r1, r2, ⟨r6, r8⟩, r7⟩ := R
  obtain ⟨_, h2, p, rfl, H2, c⟩ := e_restore (d := d) H ok (by rw [r6]; exact hf)
  have es : d_snap (d_rec M) = d_snap M := d_push_snap _
  rw [d_restore, es] at H2
  rw [es] at p
  have E := r8 hf
  rw [E.prt] at p
  exact ⟨_, h2, p, rfl, _, H2, ok.rec.state E.len, Rr.setS E, c⟩
