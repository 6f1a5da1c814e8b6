/-! print; the history; the text -/
theorem Hsh.same {h h1 : m_Hp} {k : Nat} {s : c_Sh} (hs : Hsh h k s) (e : ∀ j, j < 4 → h1[k + j]? = h[k + j]?) : Hsh h1 k s := by
  obtain ⟨h0, h1, h2, h3, h4, h5⟩ := hs
  exact ⟨h0, (e 0 (by omega)).trans h1, (e 1 (by omega)).trans h2, (e 2 (by omega)).trans h3, (e 3 (by omega)).trans h4, h5⟩
theorem g_behind_mem {cards backs : List Nat} {tu : Bool} (hb : ∀ x, x ∈ backs → x < 16) (hl : backs.length = 24) : ∀ n, n ≤ 24 → ∀ x, x ∈ g_behind cards backs tu n → x < 16
  | 0, _, x, hx => by rw [(List.mem_replicate.mp hx).2]; decide
  | n + 1, h, x, hx => by
    rw [g_behind] at hx
    rcases List.mem_or_eq_of_mem_set hx with z | z
    · exact g_behind_mem hb hl n (by omega) x z
    · rw [z]; exact g_getD_lt hb (by split <;> omega)
theorem g_sheet_ok {n : List Nat} {p : Nat} {S : c_St} {tu : Bool} (t : Tok n p S) : s_ok (g_sheet S tu) := by
  unfold s_ok g_sheet g_sm
  dsimp only
  exact ⟨g_behind_mem t.1.2.2.2.2.1 t.1.2.2.2.1 24 (Nat.le_refl _), t.1.2.1, t.2.2.2.1⟩
theorem Tok.wear {n : List Nat} {p : Nat} {S : c_St} (t : Tok n p S) : Tok n p (g_wear S) := by
  rw [g_wear]
  split
  · exact t.mark (is := true) (Nat.mod_lt _ (by decide)) (Nat.mod_lt _ (by decide))
  · exact t
theorem Tok.print {n : List Nat} {p k : Nat} {S : c_St} (t : Tok n p S) (hp : c_piled S < 6) (h2 : p + 1 < 2 ^ 30) : Tok (k :: n) (p + 1) (g_printed S k) := by
  obtain ⟨⟨k1, k2, k3, k4, k5, k6, k7, k8, k9, k10, k11, k12, k13⟩, l2, ⟨r1, r2, r3⟩, l4, l5, l6, l7⟩ := t
  refine Tok.wear ⟨⟨k1, k2, k3, k4, k5, k6, k7, (List.length_set ..).trans k8, k9, k10, k11, show c_piled S + 1 ≤ 6 by omega, show c_printed S + 1 < 2 ^ 30 by omega⟩, show c_printed S + 1 ≤ p + 1 by omega, ⟨fun j hj => ?_, fun j hj => ?_, fun j hj => ?_⟩, l4, l5, l6, l7⟩
  · rcases List.mem_or_eq_of_mem_set (show some j ∈ (c_pile S).set (c_piled S) (some k) from hj) with z | z
    · exact List.mem_cons_of_mem _ (r1 j z)
    · rw [Option.some.inj z]; exact List.mem_cons_self
  · have hj2 : j < c_piled S + 1 := hj
    by_cases e : j = c_piled S
    · refine ⟨k, List.mem_cons_self, ?_⟩
      show ((c_pile S).set (c_piled S) (some k)).getD j none = _
      rw [e, List.getD_eq_getElem?_getD, List.getElem?_set_self (by omega)]; rfl
    · obtain ⟨i, hi, e2⟩ := r2 j (by omega)
      refine ⟨i, List.mem_cons_of_mem _ hi, ?_⟩
      show ((c_pile S).set (c_piled S) (some k)).getD j none = _
      rw [List.getD_eq_getElem?_getD, List.getElem?_set_ne (Ne.symm e), ← List.getD_eq_getElem?_getD]; exact e2
  · exact List.mem_cons_of_mem _ (r3 j hj)
theorem Hcl.grow {h h2 : m_Hp} {n : List Nat} {F : Nat → c_Sh} {W : c_W} {S : c_St} {s : c_Sh} (H : Hcl h n F W) (l : h2.length = h.length + 4) (e : ∀ j, j < h.length → (j < 5 ∨ 5 + 8 ≤ j) → h2[j]? = h[j]?) (hs : Hst h2 5 S) (hn : Hsh h2 h.length s) (so : s_ok s) : Hcl h2 (h.length :: n) (g_upd F h.length s) (w_S W S) := by
  obtain ⟨⟨a0, a1, a2⟩, a4, _, a6, a7, a8, a9, a10⟩ := H
  have hl := a10.1
  have ht : (h2.take h.length).length = h.length := by rw [List.length_take]; omega
  have et : ∀ k, k < h.length → (h2.take h.length)[k]? = h2[k]? := fun k hk => by rw [List.getElem?_take, if_pos hk]
  have c : Chg 5 13 h (h2.take h.length) := ⟨ht, fun k hk => by
    by_cases z : k < h.length
    · rw [et k z]; exact e k z hk
    · rw [List.getElem?_eq_none (by omega), List.getElem?_eq_none (by omega)]⟩
  have sm : ∀ k, k < (h2.take h.length).length → h2[k]? = (h2.take h.length)[k]? := fun k hk => (et k (by omega)).symm
  refine ⟨⟨(e _ (by omega) (by omega)).trans a0, (e _ (by omega) (by omega)).trans a1, (e _ (by omega) (by omega)).trans a2⟩, (e _ (by omega) (by omega)).trans a4, hs, (a6.off c (by omega)).same sm, (a7.off c (by omega)).same sm, (a8.off c (by omega)).same sm, ?_, by omega, fun k hk => ?_⟩
  · obtain ⟨zs, z1, z2⟩ := a9
    exact ⟨zs, (e _ (by omega) (by omega)).trans z1, z2⟩
  · rcases List.mem_cons.mp hk with z | z
    · rw [z, g_upd_at]; exact ⟨hl, by omega, hn, so⟩
    · obtain ⟨q1, q2, q3, q4⟩ := a10.2 k z
      rw [g_upd_off _ _ (by omega)]
      exact ⟨q1, by omega, q3.same (fun j hj => e _ (by omega) (by omega)), q4⟩
theorem Hst.piled {S : c_St} {k : Nat} : c_piled (g_printed S k) = c_piled S + 1 := by
  rw [g_printed, g_wear]; split <;> rfl
theorem o_printFull {d : Nat} {n : List Nat} {p : Nat} {F : Nat → c_Sh} {W : c_W} {x : Int32} {h : m_Hp} (H : Hcl h n F W) (ok : Okw n p W) (hf : ¬ c_piled (w_now W) < 6) : ∃ r h', m_Call m_P (d + 6) 44 [.ref 4, .int x] (h) r h' ∧ (Opq n p F W h (-3) none) r h' := by
  refine m_call_ex (tab := tX5_print) (nL := 2) rfl rfl ?_
  have l12 := ok.1.1.2.2.2.2.2.2.2.2.2.2.2.1
  refine m_E.run 1 (pc1 := 1) (ls1 := [some _, some _]) (st1 := [_]) rfl ?_
  refine m_E.gf H.o (by decide) rfl rfl ?_
  refine m_E.gf H.now.2.1 (by decide) rfl rfl ?_
  refine m_E.run 1 (pc1 := 9) (ls1 := [some _, some _]) (st1 := [_, _]) rfl ?_
  refine m_E.icf ((m_ltI (by omega) (by omega)).trans (decide_eq_false hf)) rfl ?_
  refine m_E.run 1 (pc1 := 14) (ls1 := [some _, some _]) (st1 := [_]) rfl ?_
  exact m_E.iret rfl ⟨rfl, H, ok, Frm.rf, rfl⟩
theorem o_print {d : Nat} {n : List Nat} {p : Nat} {F : Nat → c_Sh} {W : c_W} {x : Int32} {tu : Bool} {h : m_Hp} (H : Hcl h n F W) (ok : Okw n p W) (hf : c_piled (w_now W) < 6) (hp : p + 1 < 2 ^ 30) (hx : x = m_bI tu) : ∃ r h', m_Call m_P (d + 6) 44 [.ref 4, .int x] (h) r h' ∧ (fun r h2 => r = some (.int (nI (c_piled (w_now W) + 1))) ∧ Hcl h2 (h.length :: n) (g_upd F h.length (g_sheet (w_now W) tu)) (w_S (w_rec W) (g_printed (w_now W) h.length)) ∧ Okw (h.length :: n) (p + 1) (w_S (w_rec W) (g_printed (w_now W) h.length)) ∧ Frm h h2 ∧ h2.length = h.length + 4) r h' := by
  refine m_call_ex (tab := tX5_print) (nL := 2) rfl rfl ?_
  subst hx
  have l2 := ok.1.2.1
  refine m_E.run 1 (pc1 := 1) (ls1 := [some _, some _]) (st1 := [_]) rfl ?_
  refine m_E.gf H.o (by decide) rfl rfl ?_
  refine m_E.gf H.now.2.1 (by decide) rfl rfl ?_
  refine m_E.run 1 (pc1 := 9) (ls1 := [some _, some _]) (st1 := [_, _]) rfl ?_
  refine m_E.ict ((m_ltI (by omega) (by omega)).trans (decide_eq_true hf)) rfl ?_
  refine m_E.run 1 (pc1 := 16) (ls1 := [some _, some _]) (st1 := [_]) rfl ?_
  refine m_E.gf H.o (by decide) rfl rfl ?_
  refine m_E.run 1 (pc1 := 20) (ls1 := [some _, some _]) (st1 := [_, _]) rfl ?_
  refine m_E.gf H.o (by decide) rfl rfl ?_
  obtain ⟨h1, p1, H1, f1, l1⟩ := c_rec (d := d) H ok
  have ok1 := ok.rec
  refine m_E.on H.hist.2.1 (by decide) rfl rfl rfl (p1) ?_
  refine m_E.run 1 (pc1 := 27) (ls1 := [some _, some _]) (st1 := [_]) rfl ?_
  refine m_E.gf H1.o (by decide) rfl rfl ?_
  refine m_E.run 1 (pc1 := 31) (ls1 := [some _, some _]) (st1 := [_, _]) rfl ?_
  have hl := H1.shp.1
  obtain ⟨_, h2, p2, rfl, e2, e3, g2, s2⟩ := c_print (d := d + 1) (tu := tu) H1.now ok1.1.1 hf (by omega) (by show c_printed (w_now W) + 1 < 2 ^ 30; omega) rfl ok1.1.2.2.2.1
  refine m_E.on H1.now.2.1 (by decide) rfl rfl rfl (p2) ?_
  have H2 := H1.grow e2 e3 g2 s2 (g_sheet_ok ok.1)
  rw [l1] at H2
  refine m_E.run 1 (pc1 := 35) (ls1 := [some _, some _]) (st1 := [_]) rfl ?_
  refine m_E.gf H2.o (by decide) rfl rfl ?_
  refine m_E.gf H2.now.2.1 (by decide) rfl rfl ?_
  exact m_E.iret rfl ⟨by rw [← Hst.piled (k := h.length)]; rfl, H2, (ok1.up (fun k hk => List.mem_cons_of_mem _ hk) (by omega)).setS (ok.1.print hf hp), f1.tr ⟨by omega, fun k hk hk2 => e3 k hk (by omega)⟩, by omega⟩
def w_undo (W : c_W) : c_W := w_mk (w_ring W ((w_next W + 3) % 4)) (w_snap W) (w_ring W) ((w_next W + 3) % 4) (w_size W - 1) (w_text W) (w_kept W)
theorem o_undo0 {d : Nat} {n : List Nat} {p : Nat} {F : Nat → c_Sh} {W : c_W} {h : m_Hp} (H : Hcl h n F W) (ok : Okw n p W) (hf : w_size W = 0) : ∃ r h', m_Call m_P (d + 6) 51 [.ref 4] (h) r h' ∧ (Opq n p F W h (-5) none) r h' := by
  refine m_call_ex (tab := tX5_undo) (nL := 1) rfl rfl ?_
  refine m_E.run 1 (pc1 := 1) (ls1 := [some _]) (st1 := [_]) rfl ?_
  refine m_E.gf H.o (by decide) rfl rfl ?_
  refine m_E.gf H.hist.2.1 (by decide) rfl rfl ?_
  refine m_E.iff (by rw [hf]; rfl) rfl ?_
  refine m_E.run 1 (pc1 := 12) (ls1 := [some _]) (st1 := [_]) rfl ?_
  exact m_E.iret rfl ⟨rfl, H, ok, Frm.rf, rfl⟩
theorem o_undo {d : Nat} {n : List Nat} {p : Nat} {F : Nat → c_Sh} {W : c_W} {h : m_Hp} (H : Hcl h n F W) (ok : Okw n p W) (hf : 0 < w_size W) : ∃ r h', m_Call m_P (d + 6) 51 [.ref 4] (h) r h' ∧ (fun r h2 => r = some (.int (nI (w_size W - 1))) ∧ Hcl h2 n F (w_undo W) ∧ Okw n p (w_undo W) ∧ Frm h h2 ∧ h2.length = h.length) r h' := by
  refine m_call_ex (tab := tX5_undo) (nL := 1) rfl rfl ?_
  have hz := H.hist.2.2.2.2.2.2
  have hm : (w_next W + 3) % 4 < 4 := Nat.mod_lt _ (by decide)
  refine m_E.run 1 (pc1 := 1) (ls1 := [some _]) (st1 := [_]) rfl ?_
  refine m_E.gf H.o (by decide) rfl rfl ?_
  refine m_E.gf H.hist.2.1 (by decide) rfl rfl ?_
  refine m_E.ift (by rw [m_beq0 (by omega), decide_eq_false (by omega)]; rfl) rfl ?_
  refine m_E.run 1 (pc1 := 14) (ls1 := [some _]) (st1 := [_]) rfl ?_
  refine m_E.gf H.o (by decide) rfl rfl ?_
  refine m_E.run 1 (pc1 := 18) (ls1 := [some _]) (st1 := [_, _]) rfl ?_
  refine m_E.gf H.o (by decide) rfl rfl ?_
  obtain ⟨_, h2, p2, rfl, g2, g3, e2, e3⟩ := c_takeLatest (d := d + 1) H.hist H.now ok.1.1 (Or.inl (by decide)) hf (fun k hk => by obtain ⟨q1, q2, q3⟩ := H.ref ((ok.2.2.1 _ hm).2.2.1.1 k hk); exact ⟨by omega, by omega, by omega, q3⟩)
  refine m_E.on H.hist.2.1 (by decide) rfl rfl rfl (p2) ?_
  have H2 : Hcl h2 n F (w_undo W) := by
    obtain ⟨⟨a0, a1, a2⟩, a4, a5, a6, a7, a8, a9, a10⟩ := id H
    refine ⟨⟨(e3 _ (by omega) (by omega)).trans a0, (e3 _ (by omega) (by omega)).trans a1, (e3 _ (by omega) (by omega)).trans a2⟩, (e3 _ (by omega) (by omega)).trans a4, g3, ?_, g2, ?_, ?_, by rw [e2]; exact a10.1, fun k hk => by obtain ⟨q1, q2, q3, q4⟩ := a10.2 k hk; exact ⟨q1, by rw [e2]; exact q2, q3.same (fun j hj => e3 _ (by omega) (by omega)), q4⟩⟩
    · obtain ⟨h0, b1, b2, b3, b4, b5, b6, b7, b8⟩ := a6
      exact ⟨h0, (e3 _ (by omega) (by omega)).trans b1, (e3 _ (by omega) (by omega)).trans b2, (e3 _ (by omega) (by omega)).trans b3, (e3 _ (by omega) (by omega)).trans b4, (e3 _ (by omega) (by omega)).trans b5, (e3 _ (by omega) (by omega)).trans b6, (e3 _ (by omega) (by omega)).trans b7, (e3 _ (by omega) (by omega)).trans b8⟩
    · obtain ⟨h0, b1, b2, b3, b4, b5⟩ := a8
      exact ⟨h0, (e3 _ (by omega) (by omega)).trans b1, (e3 _ (by omega) (by omega)).trans b2, (e3 _ (by omega) (by omega)).trans b3, (e3 _ (by omega) (by omega)).trans b4, (e3 _ (by omega) (by omega)).trans b5⟩
    · obtain ⟨zs, z1, z2⟩ := a9
      exact ⟨zs, (e3 _ (by omega) (by omega)).trans z1, z2⟩
  refine m_E.run 1 (pc1 := 25) (ls1 := [some _]) (st1 := [_]) rfl ?_
  refine m_E.gf H2.o (by decide) rfl rfl ?_
  refine m_E.gf H2.hist.2.1 (by decide) rfl rfl ?_
  exact m_E.iret rfl ⟨rfl, H2, ⟨ok.2.2.1 _ hm, ok.2.1, ok.2.2.1, ok.2.2.2⟩, ⟨Nat.le_of_eq e2.symm, fun k hk hk2 => e3 k (by omega) (by omega)⟩, e2⟩
def w_keep (W : c_W) : c_W := w_mk (w_now W) (w_now W) (w_ring W) (w_next W) (w_size W) (w_text W) true
