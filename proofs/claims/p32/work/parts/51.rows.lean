/-! the law's rows -/
abbrev y_R : Type := List Int32 × List Int32 × List Int32 × List Int32 × List Int32 × List Int32 × List Int32 × List Int32
def y_q (R : y_R) : List Int32 := R.1
def y_b (R : y_R) : List Int32 := R.2.1
def y_m (R : y_R) : List Int32 := R.2.2.1
def y_l (R : y_R) : List Int32 := R.2.2.2.1
def y_p (R : y_R) : List Int32 := R.2.2.2.2.1
def y_c (R : y_R) : List Int32 := R.2.2.2.2.2.1
def y_g (R : y_R) : List Int32 := R.2.2.2.2.2.2.1
def y_h (R : y_R) : List Int32 := R.2.2.2.2.2.2.2
def y_mk (q b m l p c g h : List Int32) : y_R := (q, b, m, l, p, c, g, h)
def y_sq (R : y_R) (v : List Int32) : y_R := y_mk v (y_b R) (y_m R) (y_l R) (y_p R) (y_c R) (y_g R) (y_h R)
def y_sb (R : y_R) (v : List Int32) : y_R := y_mk (y_q R) v (y_m R) (y_l R) (y_p R) (y_c R) (y_g R) (y_h R)
def y_sm (R : y_R) (v : List Int32) : y_R := y_mk (y_q R) (y_b R) v (y_l R) (y_p R) (y_c R) (y_g R) (y_h R)
def y_sl (R : y_R) (v : List Int32) : y_R := y_mk (y_q R) (y_b R) (y_m R) v (y_p R) (y_c R) (y_g R) (y_h R)
def y_sp (R : y_R) (v : List Int32) : y_R := y_mk (y_q R) (y_b R) (y_m R) (y_l R) v (y_c R) (y_g R) (y_h R)
def y_sc (R : y_R) (v : List Int32) : y_R := y_mk (y_q R) (y_b R) (y_m R) (y_l R) (y_p R) v (y_g R) (y_h R)
def y_sg (R : y_R) (v : List Int32) : y_R := y_mk (y_q R) (y_b R) (y_m R) (y_l R) (y_p R) (y_c R) v (y_h R)
def y_sh (R : y_R) (v : List Int32) : y_R := y_mk (y_q R) (y_b R) (y_m R) (y_l R) (y_p R) (y_c R) (y_g R) v
def Hrw (h : m_Hp) (R : y_R) : Prop := h[61]? = some (.inl (0, y_q R)) ∧ h[62]? = some (.inl (0, y_b R)) ∧ h[63]? = some (.inl (0, y_m R)) ∧ h[64]? = some (.inl (0, y_l R)) ∧ h[65]? = some (.inl (0, y_p R)) ∧ h[66]? = some (.inl (0, y_c R)) ∧ h[67]? = some (.inl (0, y_g R)) ∧ h[68]? = some (.inl (0, y_h R))
def Okr (R : y_R) : Prop := (y_q R).length = 12 ∧ (y_b R).length = 24 ∧ (y_m R).length = 24 ∧ (y_l R).length = 12 ∧ (y_p R).length = 60 ∧ (y_c R).length = 24 ∧ (y_g R).length = 24 ∧ (y_h R).length = 12
theorem Hrw.off {h h1 : m_Hp} {R : y_R} (H : Hrw h R) (e : ∀ k, 61 ≤ k → k < 69 → h1[k]? = h[k]?) : Hrw h1 R := by
  obtain ⟨a0, a1, a2, a3, a4, a5, a6, a7⟩ := H
  exact ⟨(e _ (by decide) (by decide)).trans a0, (e _ (by decide) (by decide)).trans a1, (e _ (by decide) (by decide)).trans a2, (e _ (by decide) (by decide)).trans a3, (e _ (by decide) (by decide)).trans a4, (e _ (by decide) (by decide)).trans a5, (e _ (by decide) (by decide)).trans a6, (e _ (by decide) (by decide)).trans a7⟩
theorem y_at {l : List Int32} {j n : Nat} {x : Int32} (hl : l.length = n) (hj : j < n) : (l.set j x).getD j 0 = x := by rw [List.getD_eq_getElem?_getD, List.getElem?_set_self (by omega)]; rfl
theorem y_off {l : List Int32} {i j : Nat} {x : Int32} (h : i ≠ j) : (l.set i x).getD j 0 = l.getD j 0 := by rw [List.getD_eq_getElem?_getD, List.getElem?_set_ne h, List.getD_eq_getElem?_getD]
theorem Hrw.wq {h h1 : m_Hp} {R : y_R} {v : List Int32} (H : Hrw h R) (u : Upd 61 (.inl (0, v)) h h1) : Hrw h1 (y_sq R v) := by
  obtain ⟨a0, a1, a2, a3, a4, a5, a6, a7⟩ := H
  exact ⟨u.2.1, (u.2.2 _ (by decide)).trans a1, (u.2.2 _ (by decide)).trans a2, (u.2.2 _ (by decide)).trans a3, (u.2.2 _ (by decide)).trans a4, (u.2.2 _ (by decide)).trans a5, (u.2.2 _ (by decide)).trans a6, (u.2.2 _ (by decide)).trans a7⟩
theorem Okr.wq {R : y_R} {j : Nat} {x : Int32} (ok : Okr R) : Okr (y_sq R ((y_q R).set j x)) := by
  obtain ⟨b0, b1, b2, b3, b4, b5, b6, b7⟩ := ok
  exact ⟨(List.length_set ..).trans b0, b1, b2, b3, b4, b5, b6, b7⟩
theorem Okr.vq {R : y_R} {v : List Int32} (ok : Okr R) (e : v.length = 12) : Okr (y_sq R v) := by
  obtain ⟨b0, b1, b2, b3, b4, b5, b6, b7⟩ := ok
  exact ⟨e, b1, b2, b3, b4, b5, b6, b7⟩
theorem Hrw.wb {h h1 : m_Hp} {R : y_R} {v : List Int32} (H : Hrw h R) (u : Upd 62 (.inl (0, v)) h h1) : Hrw h1 (y_sb R v) := by
  obtain ⟨a0, a1, a2, a3, a4, a5, a6, a7⟩ := H
  exact ⟨(u.2.2 _ (by decide)).trans a0, u.2.1, (u.2.2 _ (by decide)).trans a2, (u.2.2 _ (by decide)).trans a3, (u.2.2 _ (by decide)).trans a4, (u.2.2 _ (by decide)).trans a5, (u.2.2 _ (by decide)).trans a6, (u.2.2 _ (by decide)).trans a7⟩
theorem Okr.wb {R : y_R} {j : Nat} {x : Int32} (ok : Okr R) : Okr (y_sb R ((y_b R).set j x)) := by
  obtain ⟨b0, b1, b2, b3, b4, b5, b6, b7⟩ := ok
  exact ⟨b0, (List.length_set ..).trans b1, b2, b3, b4, b5, b6, b7⟩
theorem Okr.vb {R : y_R} {v : List Int32} (ok : Okr R) (e : v.length = 24) : Okr (y_sb R v) := by
  obtain ⟨b0, b1, b2, b3, b4, b5, b6, b7⟩ := ok
  exact ⟨b0, e, b2, b3, b4, b5, b6, b7⟩
theorem Hrw.wm {h h1 : m_Hp} {R : y_R} {v : List Int32} (H : Hrw h R) (u : Upd 63 (.inl (0, v)) h h1) : Hrw h1 (y_sm R v) := by
  obtain ⟨a0, a1, a2, a3, a4, a5, a6, a7⟩ := H
  exact ⟨(u.2.2 _ (by decide)).trans a0, (u.2.2 _ (by decide)).trans a1, u.2.1, (u.2.2 _ (by decide)).trans a3, (u.2.2 _ (by decide)).trans a4, (u.2.2 _ (by decide)).trans a5, (u.2.2 _ (by decide)).trans a6, (u.2.2 _ (by decide)).trans a7⟩
theorem Okr.wm {R : y_R} {j : Nat} {x : Int32} (ok : Okr R) : Okr (y_sm R ((y_m R).set j x)) := by
  obtain ⟨b0, b1, b2, b3, b4, b5, b6, b7⟩ := ok
  exact ⟨b0, b1, (List.length_set ..).trans b2, b3, b4, b5, b6, b7⟩
theorem Okr.vm {R : y_R} {v : List Int32} (ok : Okr R) (e : v.length = 24) : Okr (y_sm R v) := by
  obtain ⟨b0, b1, b2, b3, b4, b5, b6, b7⟩ := ok
  exact ⟨b0, b1, e, b3, b4, b5, b6, b7⟩
theorem Hrw.wl {h h1 : m_Hp} {R : y_R} {v : List Int32} (H : Hrw h R) (u : Upd 64 (.inl (0, v)) h h1) : Hrw h1 (y_sl R v) := by
  obtain ⟨a0, a1, a2, a3, a4, a5, a6, a7⟩ := H
  exact ⟨(u.2.2 _ (by decide)).trans a0, (u.2.2 _ (by decide)).trans a1, (u.2.2 _ (by decide)).trans a2, u.2.1, (u.2.2 _ (by decide)).trans a4, (u.2.2 _ (by decide)).trans a5, (u.2.2 _ (by decide)).trans a6, (u.2.2 _ (by decide)).trans a7⟩
theorem Okr.wl {R : y_R} {j : Nat} {x : Int32} (ok : Okr R) : Okr (y_sl R ((y_l R).set j x)) := by
  obtain ⟨b0, b1, b2, b3, b4, b5, b6, b7⟩ := ok
  exact ⟨b0, b1, b2, (List.length_set ..).trans b3, b4, b5, b6, b7⟩
theorem Okr.vl {R : y_R} {v : List Int32} (ok : Okr R) (e : v.length = 12) : Okr (y_sl R v) := by
  obtain ⟨b0, b1, b2, b3, b4, b5, b6, b7⟩ := ok
  exact ⟨b0, b1, b2, e, b4, b5, b6, b7⟩
theorem Hrw.wp {h h1 : m_Hp} {R : y_R} {v : List Int32} (H : Hrw h R) (u : Upd 65 (.inl (0, v)) h h1) : Hrw h1 (y_sp R v) := by
  obtain ⟨a0, a1, a2, a3, a4, a5, a6, a7⟩ := H
  exact ⟨(u.2.2 _ (by decide)).trans a0, (u.2.2 _ (by decide)).trans a1, (u.2.2 _ (by decide)).trans a2, (u.2.2 _ (by decide)).trans a3, u.2.1, (u.2.2 _ (by decide)).trans a5, (u.2.2 _ (by decide)).trans a6, (u.2.2 _ (by decide)).trans a7⟩
theorem Okr.wp {R : y_R} {j : Nat} {x : Int32} (ok : Okr R) : Okr (y_sp R ((y_p R).set j x)) := by
  obtain ⟨b0, b1, b2, b3, b4, b5, b6, b7⟩ := ok
  exact ⟨b0, b1, b2, b3, (List.length_set ..).trans b4, b5, b6, b7⟩
theorem Okr.vp {R : y_R} {v : List Int32} (ok : Okr R) (e : v.length = 60) : Okr (y_sp R v) := by
  obtain ⟨b0, b1, b2, b3, b4, b5, b6, b7⟩ := ok
  exact ⟨b0, b1, b2, b3, e, b5, b6, b7⟩
theorem Hrw.wc {h h1 : m_Hp} {R : y_R} {v : List Int32} (H : Hrw h R) (u : Upd 66 (.inl (0, v)) h h1) : Hrw h1 (y_sc R v) := by
  obtain ⟨a0, a1, a2, a3, a4, a5, a6, a7⟩ := H
  exact ⟨(u.2.2 _ (by decide)).trans a0, (u.2.2 _ (by decide)).trans a1, (u.2.2 _ (by decide)).trans a2, (u.2.2 _ (by decide)).trans a3, (u.2.2 _ (by decide)).trans a4, u.2.1, (u.2.2 _ (by decide)).trans a6, (u.2.2 _ (by decide)).trans a7⟩
theorem Okr.wc {R : y_R} {j : Nat} {x : Int32} (ok : Okr R) : Okr (y_sc R ((y_c R).set j x)) := by
  obtain ⟨b0, b1, b2, b3, b4, b5, b6, b7⟩ := ok
  exact ⟨b0, b1, b2, b3, b4, (List.length_set ..).trans b5, b6, b7⟩
theorem Okr.vc {R : y_R} {v : List Int32} (ok : Okr R) (e : v.length = 24) : Okr (y_sc R v) := by
  obtain ⟨b0, b1, b2, b3, b4, b5, b6, b7⟩ := ok
  exact ⟨b0, b1, b2, b3, b4, e, b6, b7⟩
theorem Hrw.wg {h h1 : m_Hp} {R : y_R} {v : List Int32} (H : Hrw h R) (u : Upd 67 (.inl (0, v)) h h1) : Hrw h1 (y_sg R v) := by
  obtain ⟨a0, a1, a2, a3, a4, a5, a6, a7⟩ := H
  exact ⟨(u.2.2 _ (by decide)).trans a0, (u.2.2 _ (by decide)).trans a1, (u.2.2 _ (by decide)).trans a2, (u.2.2 _ (by decide)).trans a3, (u.2.2 _ (by decide)).trans a4, (u.2.2 _ (by decide)).trans a5, u.2.1, (u.2.2 _ (by decide)).trans a7⟩
theorem Okr.wg {R : y_R} {j : Nat} {x : Int32} (ok : Okr R) : Okr (y_sg R ((y_g R).set j x)) := by
  obtain ⟨b0, b1, b2, b3, b4, b5, b6, b7⟩ := ok
  exact ⟨b0, b1, b2, b3, b4, b5, (List.length_set ..).trans b6, b7⟩
theorem Okr.vg {R : y_R} {v : List Int32} (ok : Okr R) (e : v.length = 24) : Okr (y_sg R v) := by
  obtain ⟨b0, b1, b2, b3, b4, b5, b6, b7⟩ := ok
  exact ⟨b0, b1, b2, b3, b4, b5, e, b7⟩
theorem Hrw.wh {h h1 : m_Hp} {R : y_R} {v : List Int32} (H : Hrw h R) (u : Upd 68 (.inl (0, v)) h h1) : Hrw h1 (y_sh R v) := by
  obtain ⟨a0, a1, a2, a3, a4, a5, a6, a7⟩ := H
  exact ⟨(u.2.2 _ (by decide)).trans a0, (u.2.2 _ (by decide)).trans a1, (u.2.2 _ (by decide)).trans a2, (u.2.2 _ (by decide)).trans a3, (u.2.2 _ (by decide)).trans a4, (u.2.2 _ (by decide)).trans a5, (u.2.2 _ (by decide)).trans a6, u.2.1⟩
theorem Okr.wh {R : y_R} {j : Nat} {x : Int32} (ok : Okr R) : Okr (y_sh R ((y_h R).set j x)) := by
  obtain ⟨b0, b1, b2, b3, b4, b5, b6, b7⟩ := ok
  exact ⟨b0, b1, b2, b3, b4, b5, b6, (List.length_set ..).trans b7⟩
theorem Okr.vh {R : y_R} {v : List Int32} (ok : Okr R) (e : v.length = 12) : Okr (y_sh R v) := by
  obtain ⟨b0, b1, b2, b3, b4, b5, b6, b7⟩ := ok
  exact ⟨b0, b1, b2, b3, b4, b5, b6, e⟩
section
variable {C : m_CR} {tab : m_Tab} {pc : Nat} {ls : m_Ls} {st : List Value} {h : m_Hp} {Q : Option Value → m_Hp → Prop} {R : y_R}
/-- a read of a row -/
theorem m_E.yr {a j n : Nat} {i v : Int32} {xs : List Int32} (hh : h[a]? = some (.inl (0, xs))) (hl : xs.length = n) (hi : i = nI j) (hj : j < n) (hn : n < 1000) (hv : xs.getD j 0 = v) (e1 : m_at tab pc = some (m_ild 0)) (kk : m_E C tab (pc + 1) ls (.int v :: st) h Q) : m_E C tab pc ls (.int i :: .ref a :: st) h Q :=
  m_E.ild hh (Or.inl rfl) hi (by omega) (by omega) e1 (by rw [hv]; exact kk)
theorem m_E.yq {j : Nat} {i x : Int32} (H : Hrw h R) (ok : Okr R) (hi : i = nI j) (hj : j < 12) (e1 : m_at tab pc = some (m_ist 0 (fun x => x))) (kk : ∀ h1, Hrw h1 (y_sq R ((y_q R).set j x)) → Chg 61 69 h h1 → m_E C tab (pc + 1) ls st h1 Q) : m_E C tab pc ls (.int x :: .int i :: .ref 61 :: st) h Q :=
  m_E.ig H.1 (by decide) hi (by have := ok.1; omega) (by have := ok.1; omega) e1 (fun h1 u => kk h1 (H.wq u) (u.chg (by decide) (by decide)))
theorem m_E.yb {j : Nat} {i x : Int32} (H : Hrw h R) (ok : Okr R) (hi : i = nI j) (hj : j < 24) (e1 : m_at tab pc = some (m_ist 0 (fun x => x))) (kk : ∀ h1, Hrw h1 (y_sb R ((y_b R).set j x)) → Chg 61 69 h h1 → m_E C tab (pc + 1) ls st h1 Q) : m_E C tab pc ls (.int x :: .int i :: .ref 62 :: st) h Q :=
  m_E.ig H.2.1 (by decide) hi (by have := ok.2.1; omega) (by have := ok.2.1; omega) e1 (fun h1 u => kk h1 (H.wb u) (u.chg (by decide) (by decide)))
theorem m_E.ym {j : Nat} {i x : Int32} (H : Hrw h R) (ok : Okr R) (hi : i = nI j) (hj : j < 24) (e1 : m_at tab pc = some (m_ist 0 (fun x => x))) (kk : ∀ h1, Hrw h1 (y_sm R ((y_m R).set j x)) → Chg 61 69 h h1 → m_E C tab (pc + 1) ls st h1 Q) : m_E C tab pc ls (.int x :: .int i :: .ref 63 :: st) h Q :=
  m_E.ig H.2.2.1 (by decide) hi (by have := ok.2.2.1; omega) (by have := ok.2.2.1; omega) e1 (fun h1 u => kk h1 (H.wm u) (u.chg (by decide) (by decide)))
theorem m_E.yl {j : Nat} {i x : Int32} (H : Hrw h R) (ok : Okr R) (hi : i = nI j) (hj : j < 12) (e1 : m_at tab pc = some (m_ist 0 (fun x => x))) (kk : ∀ h1, Hrw h1 (y_sl R ((y_l R).set j x)) → Chg 61 69 h h1 → m_E C tab (pc + 1) ls st h1 Q) : m_E C tab pc ls (.int x :: .int i :: .ref 64 :: st) h Q :=
  m_E.ig H.2.2.2.1 (by decide) hi (by have := ok.2.2.2.1; omega) (by have := ok.2.2.2.1; omega) e1 (fun h1 u => kk h1 (H.wl u) (u.chg (by decide) (by decide)))
theorem m_E.yp {j : Nat} {i x : Int32} (H : Hrw h R) (ok : Okr R) (hi : i = nI j) (hj : j < 60) (e1 : m_at tab pc = some (m_ist 0 (fun x => x))) (kk : ∀ h1, Hrw h1 (y_sp R ((y_p R).set j x)) → Chg 61 69 h h1 → m_E C tab (pc + 1) ls st h1 Q) : m_E C tab pc ls (.int x :: .int i :: .ref 65 :: st) h Q :=
  m_E.ig H.2.2.2.2.1 (by decide) hi (by have := ok.2.2.2.2.1; omega) (by have := ok.2.2.2.2.1; omega) e1 (fun h1 u => kk h1 (H.wp u) (u.chg (by decide) (by decide)))
theorem m_E.yc {j : Nat} {i x : Int32} (H : Hrw h R) (ok : Okr R) (hi : i = nI j) (hj : j < 24) (e1 : m_at tab pc = some (m_ist 0 (fun x => x))) (kk : ∀ h1, Hrw h1 (y_sc R ((y_c R).set j x)) → Chg 61 69 h h1 → m_E C tab (pc + 1) ls st h1 Q) : m_E C tab pc ls (.int x :: .int i :: .ref 66 :: st) h Q :=
  m_E.ig H.2.2.2.2.2.1 (by decide) hi (by have := ok.2.2.2.2.2.1; omega) (by have := ok.2.2.2.2.2.1; omega) e1 (fun h1 u => kk h1 (H.wc u) (u.chg (by decide) (by decide)))
theorem m_E.yg {j : Nat} {i x : Int32} (H : Hrw h R) (ok : Okr R) (hi : i = nI j) (hj : j < 24) (e1 : m_at tab pc = some (m_ist 0 (fun x => x))) (kk : ∀ h1, Hrw h1 (y_sg R ((y_g R).set j x)) → Chg 61 69 h h1 → m_E C tab (pc + 1) ls st h1 Q) : m_E C tab pc ls (.int x :: .int i :: .ref 67 :: st) h Q :=
  m_E.ig H.2.2.2.2.2.2.1 (by decide) hi (by have := ok.2.2.2.2.2.2.1; omega) (by have := ok.2.2.2.2.2.2.1; omega) e1 (fun h1 u => kk h1 (H.wg u) (u.chg (by decide) (by decide)))
theorem m_E.yh {j : Nat} {i x : Int32} (H : Hrw h R) (ok : Okr R) (hi : i = nI j) (hj : j < 12) (e1 : m_at tab pc = some (m_ist 0 (fun x => x))) (kk : ∀ h1, Hrw h1 (y_sh R ((y_h R).set j x)) → Chg 61 69 h h1 → m_E C tab (pc + 1) ls st h1 Q) : m_E C tab pc ls (.int x :: .int i :: .ref 68 :: st) h Q :=
  m_E.ig H.2.2.2.2.2.2.2 (by decide) hi (by have := ok.2.2.2.2.2.2.2; omega) (by have := ok.2.2.2.2.2.2.2; omega) e1 (fun h1 u => kk h1 (H.wh u) (u.chg (by decide) (by decide)))
end
/-- the place of a card among the courts, and back -/
def y_ct (c : Nat) : Nat := 3 * (c / 6) + c % 6 - 3
def y_cc (j : Nat) : Nat := 6 * (j / 3) + 3 + j % 3
theorem y_cc_ok {j : Nat} (hj : j < 12) : y_cc j < 24 ∧ 3 ≤ y_cc j % 6 ∧ y_ct (y_cc j) = j := by unfold y_cc y_ct; omega
theorem y_ct_ok {c : Nat} (hc : c < 24) (h3 : 3 ≤ c % 6) : y_ct c < 12 ∧ y_cc (y_ct c) = c := by unfold y_cc y_ct; omega
/-- leans: of courts alone, from -9 to 9 -/
def Lnk (ls : List Int32) : Prop := ls.length = 24 ∧ (∀ c, c < 24 → ∃ v, v < 19 ∧ ls.getD c 0 = nI v - nI 9) ∧ ∀ c, c < 24 → c % 6 < 3 → ls.getD c 0 = 0
/-- what a cell of a sheet is packed as -/
def y_vc (s : c_Sh) (cell : Nat) : Nat := s.1.getD cell 0 + 32 * s.2.1.getD (s.1.getD cell 0) 0
/-- row p holds a sheet at the j-th place -/
def Ypk (p : List Int32) (j : Nat) (s : c_Sh) : Prop := (∀ i, i < 8 → ∃ w, w < 2 ^ 31 ∧ p.getD (10 * j + i) 0 = nI w ∧ ∀ t, t < 3 → w / 2 ^ (9 * t) % 512 = y_vc s (3 * i + t)) ∧ ∀ i, i < 2 → ∃ w, w < 2 ^ 31 ∧ p.getD (10 * j + 8 + i) 0 = nI w ∧ ∀ t, t < 6 → nI (w / 2 ^ (5 * t) % 32) - nI 9 = s.2.2.getD (y_cc (6 * i + t)) 0
/-- the rows beside a state -/
def Ryq (S : c_St) (R : y_R) : Prop := (∀ k, k < 4 → (y_q R).getD k 0 = nI ((c_settings S).getD k 0)) ∧ (y_q R).getD 4 0 = nI (c_printed S) ∧ (y_q R).getD 5 0 = nI (c_piled S) ∧ (y_q R).getD 6 0 = (if c_fr S = none then nI 0 else nI 1) ∧ (y_q R).getD 7 0 = nI (c_lf S) ∧ (y_q R).getD 8 0 = c_sold S ∧ (y_q R).getD 9 0 = c_pulped S ∧ (y_q R).getD 10 0 = c_coins S
def Ryb (S : c_St) (R : y_R) : Prop := (∀ k, k < 24 → (y_b R).getD k 0 = nI ((c_cards S).getD k 0)) ∧ (∀ k, k < 24 → (y_m R).getD k 0 = nI ((c_backs S).getD k 0)) ∧ ∀ j, j < 12 → (y_l R).getD j 0 = (c_leans S).getD (y_cc j) 0
def Ryp (F : Nat → c_Sh) (S : c_St) (R : y_R) : Prop := ∀ j, j < c_piled S → ∀ s, (c_pile S).getD j none = some s → Ypk (y_p R) j (g_sh F s)
def Ryk (F : Nat → c_Sh) (S : c_St) (R : y_R) : Prop := (∀ j, j < c_lf S → (y_c R).getD j 0 = nI ((c_order S).getD (c_dealt S + j) 0)) ∧ (c_fr S ≠ none → (∀ k, k < 24 → (y_g R).getD k 0 = nI ((c_shf F S).2.1.getD k 0)) ∧ (∀ j, j < 12 → (y_h R).getD j 0 = (c_shf F S).2.2.getD (y_cc j) 0) ∧ ∃ D, D < 2 ^ 24 ∧ (y_q R).getD 11 0 = nI D ∧ ∀ c, c < 24 → D.testBit c = q_dl S c)
def Ry (F : Nat → c_Sh) (S : c_St) (R : y_R) : Prop := Okr R ∧ Ryq S R ∧ Ryb S R ∧ Ryp F S R ∧ Ryk F S R
def Gln (n : List Nat) (F : Nat → c_Sh) : Prop := ∀ k, k ∈ n → Lnk (g_sh F k).2.2
/-- the sheets that there are, what they hold -/
def Gsh (n : List Nat) (F : Nat → c_Sh) : Prop := ∀ k, k ∈ n → s_ok (g_sh F k) ∧ (g_sh F k).1.length = 24 ∧ (g_sh F k).2.1.length = 24 ∧ (g_sh F k).2.2.length = 24
theorem Hcl.gsh {h : m_Hp} {n : List Nat} {F : Nat → c_Sh} {W : c_W} (H : Hcl h n F W) : Gsh n F := fun k hk => by
  obtain ⟨a, b, _⟩ := H.sheet hk
  exact ⟨b, a.2.2.2.2.2⟩
section
variable {n : List Nat} {p : Nat} {F : Nat → c_Sh} {S : c_St}
theorem lf_lt (t : Tok n p S) {i : Nat} (hi : i < c_lf S) : c_fr S ≠ none ∧ c_dealt S + i < 24 := by
  obtain ⟨a, k, b⟩ := g_left_lt t.1.2.2.2.2.2.2.2.2.2.2.1 hi
  exact ⟨(by rw [b]; intro z; cases z), a⟩
theorem c_shf_some {s : Nat} (h : c_fr S = some s) : c_shf F S = g_sh F s := by rw [c_shf, h]
theorem q_mc_lt (t : Tok n p S) (G : Gsh n F) (hf : c_fr S ≠ none) {c : Nat} (hc : c < 24) : (c_shf F S).2.1.getD c 0 < 16 := by
  cases e : c_fr S with
  | none => exact absurd e hf
  | some s =>
    have g := G s (t.2.2.1.2.2 s e)
    rw [c_shf_some e]
    exact g_getD_lt g.1.1 (by rw [g.2.2.1]; exact hc)
theorem q_mk_lt (t : Tok n p S) (G : Gsh n F) {i : Nat} (hi : i < c_lf S) : q_mk F S i < 16 := by
  obtain ⟨hf, h2⟩ := lf_lt t hi
  exact q_mc_lt t G hf (t.ord _ h2)
theorem y_lf0 (hf : c_fr S = none) : c_lf S = 0 := by rw [c_lf, hf]; rfl
end
theorem g_c1 {p : Nat → Bool} {i : Nat} (hb : p i = true) : nI (g_cnt p i) + nI 1 = nI (g_cnt p (i + 1)) := by rw [nI_add, g_cnt, if_pos hb]
theorem g_c0 {p : Nat → Bool} {i : Nat} (hb : p i = false) : nI (g_cnt p i) + nI 0 = nI (g_cnt p (i + 1)) := by rw [nI_add, g_cnt, if_neg (by rw [hb]; decide)]
def q_k1 (F : Nat → c_Sh) (S : c_St) (j : Nat) : Bool := q_can F S j == 1
def q_r1 (F : Nat → c_Sh) (S : c_St) (j : Nat) : Bool := q_gs F S j == (c_order S).getD (c_dealt S + j) 0
theorem m_beqE {a b : Nat} (h : a = b) : (a == b) = true := decide_eq_true h
theorem m_beqN {a b : Nat} (h : ¬ a = b) : (a == b) = false := decide_eq_false h
theorem m_has {S : c_St} (c : Prop) [Decidable c] : (if c then nI 0 else nI 1) = m_bI (!decide c) := by by_cases h : c <;> simp [h, m_bI]
