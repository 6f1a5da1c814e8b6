/-! the text: what a sign is -/
theorem m_u32 {n : Nat} (h : n < 2 ^ 32) : (UInt32.ofNat n).toNat = n := by
  show (BitVec.ofNat 32 n).toNat = n
  rw [BitVec.toNat_ofNat]; exact Nat.mod_eq_of_lt h
theorem m_chr_ex (x : Int32) : ∃ c, c < 65536 ∧ x.toUInt32.toUInt16.toUInt32.toInt32 = nI c := by
  have l := x.toUInt32.toUInt16.toNat_lt
  refine ⟨x.toUInt32.toUInt16.toNat, l, ?_⟩
  have e : x.toUInt32.toUInt16.toUInt32 = UInt32.ofNat x.toUInt32.toUInt16.toNat := by
    apply UInt32.toNat_inj.mp
    rw [UInt16.toNat_toUInt32, m_u32 (by omega)]
  rw [e]; rfl
theorem m_chr {c : Nat} (h : c < 65536) : (nI c).toUInt32.toUInt16.toUInt32.toInt32 = nI c := by
  have e0 : (nI c).toUInt32 = UInt32.ofNat c := rfl
  have e1 : (UInt32.ofNat c).toUInt16.toNat = c := by
    rw [UInt32.toNat_toUInt16, m_u32 (by omega)]; omega
  have e : (UInt32.ofNat c).toUInt16.toUInt32 = UInt32.ofNat c := by
    apply UInt32.toNat_inj.mp
    rw [UInt16.toNat_toUInt32, e1, m_u32 (by omega)]
  rw [e0, e]; rfl
theorem m_chr2 {c : Nat} (h : c < 65536) : vp_nar .char (nI c) = nI c := m_chr h
/-- the text object: signs, length, next, kinds, firsts, seconds, changes -/
abbrev c_Tx : Type := List Nat × Nat × Nat × List Nat × List Nat × List Int32 × Nat
def x_signs (X : c_Tx) : List Nat := X.1
def x_len (X : c_Tx) : Nat := X.2.1
def x_next (X : c_Tx) : Nat := X.2.2.1
def x_kinds (X : c_Tx) : List Nat := X.2.2.2.1
def x_firsts (X : c_Tx) : List Nat := X.2.2.2.2.1
def x_seconds (X : c_Tx) : List Int32 := X.2.2.2.2.2.1
def x_many (X : c_Tx) : Nat := X.2.2.2.2.2.2
def x_mk (signs : List Nat) (len next : Nat) (kinds firsts : List Nat) (seconds : List Int32) (many : Nat) : c_Tx := (signs, len, next, kinds, firsts, seconds, many)
def x_at (X : c_Tx) (n : Nat) : c_Tx := x_mk (x_signs X) (x_len X) n (x_kinds X) (x_firsts X) (x_seconds X) (x_many X)
def x_cnt (X : c_Tx) (n : Nat) : c_Tx := x_mk (x_signs X) (x_len X) (x_next X) (x_kinds X) (x_firsts X) (x_seconds X) n
def x_setLen (X : c_Tx) (n : Nat) : c_Tx := x_mk (x_signs X) n (x_next X) (x_kinds X) (x_firsts X) (x_seconds X) (x_many X)
def x_setSigns (X : c_Tx) (v : List Nat) : c_Tx := x_mk v (x_len X) (x_next X) (x_kinds X) (x_firsts X) (x_seconds X) (x_many X)
def x_rows (X : c_Tx) (a b : List Nat) (c : List Int32) : c_Tx := x_mk (x_signs X) (x_len X) (x_next X) a b c (x_many X)
theorem x_at_at (X : c_Tx) (n m : Nat) : x_at (x_at X n) m = x_at X m := rfl
theorem x_at_self (X : c_Tx) : x_at X (x_next X) = X := rfl
def x_flds (q : Nat) (X : c_Tx) : List Value := [.ref (q + 1), .int (nI (x_len X)), .int (nI (x_next X)), .ref (q + 2), .ref (q + 3), .ref (q + 4), .int (nI (x_many X))]
def Htx (h : m_Hp) (q : Nat) (X : c_Tx) : Prop := 3 < q ∧ h[q]? = some (.inr (.inl (4, x_flds q X))) ∧ h[q + 1]? = some (.inl (1, (x_signs X).map nI)) ∧ h[q + 2]? = some (.inl (1, (x_kinds X).map nI)) ∧ h[q + 3]? = some (.inl (0, (x_firsts X).map nI)) ∧ h[q + 4]? = some (.inl (0, x_seconds X))
def Okx (X : c_Tx) : Prop := (x_signs X).length = 60 ∧ (∀ c, c ∈ x_signs X → c < 65536) ∧ x_len X ≤ 60 ∧ x_next X ≤ 60 ∧ (x_kinds X).length = 12 ∧ (∀ c, c ∈ x_kinds X → c < 65536) ∧ (x_firsts X).length = 12 ∧ (x_seconds X).length = 12 ∧ x_many X ≤ 12
theorem Okx.at {X : c_Tx} (ok : Okx X) {n : Nat} (h : n ≤ 60) : Okx (x_at X n) := by
  obtain ⟨k1, k2, k3, k4, k5, k6, k7, k8, k9⟩ := ok
  exact ⟨k1, k2, k3, h, k5, k6, k7, k8, k9⟩
theorem Htx.off {h h1 : m_Hp} {q lo hi : Nat} {X : c_Tx} (H : Htx h q X) (hc : Chg lo hi h h1) (hd : q + 5 ≤ lo ∨ hi ≤ q) : Htx h1 q X := by
  obtain ⟨h0, h1, h2, h3, h4, h5⟩ := H
  exact ⟨h0, (hc.2 q (by omega)).trans h1, (hc.2 (q + 1) (by omega)).trans h2, (hc.2 (q + 2) (by omega)).trans h3, (hc.2 (q + 3) (by omega)).trans h4, (hc.2 (q + 4) (by omega)).trans h5⟩
theorem Htx.same {h h1 : m_Hp} {q : Nat} {X : c_Tx} (H : Htx h q X) (hc : ∀ k, k < h.length → h1[k]? = h[k]?) : Htx h1 q X := by
  obtain ⟨h0, h1, h2, h3, h4, h5⟩ := H
  have e : ∀ (k : Nat) (c : m_Cel), h[k]? = some c → _ := fun k c hk => (hc k (List.getElem?_eq_some_iff.mp hk).1).trans hk
  exact ⟨h0, e _ _ h1, e _ _ h2, e _ _ h3, e _ _ h4, e _ _ h5⟩
section
variable {C : m_CR} {tab : m_Tab} {pc : Nat} {ls : m_Ls} {st : List Value} {h : m_Hp} {Q : Option Value → m_Hp → Prop} {q ty : Nat} {X : c_Tx}
theorem Htx.obj {h1 : m_Hp} {Y : c_Tx} (H : Htx h q X) (u : Upd q (.inr (.inl (4, x_flds q Y))) h h1) (e1 : x_signs Y = x_signs X) (e2 : x_kinds Y = x_kinds X) (e3 : x_firsts Y = x_firsts X) (e4 : x_seconds Y = x_seconds X) : Htx h1 q Y := by
  obtain ⟨h0, h1, h2, h3, h4, h5⟩ := H
  exact ⟨h0, u.2.1, by rw [e1]; exact (u.2.2 _ (by omega)).trans h2, by rw [e2]; exact (u.2.2 _ (by omega)).trans h3, by rw [e3]; exact (u.2.2 _ (by omega)).trans h4, by rw [e4]; exact (u.2.2 _ (by omega)).trans h5⟩
theorem Htx.p1 {v : Nat} (H : Htx h q X) (hf : m_fit ty (.int (nI v)) = true) (e1 : m_at tab pc = some (m_put 4 1 ty)) (kk : ∀ h1, Htx h1 q (x_setLen X v) → Chg q (q + 5) h h1 → m_E C tab (pc + 3) ls st h1 Q) : m_E C tab pc ls (.int (nI v) :: .ref q :: st) h Q :=
  m_E.pg H.2.1 H.1 hf (Nat.le_of_ble_eq_true rfl) e1 (fun h1 u => kk _ (H.obj (Y := x_setLen X v) u rfl rfl rfl rfl) (u.chg (by omega) (by omega)))
theorem Htx.p2 {v : Nat} (H : Htx h q X) (hf : m_fit ty (.int (nI v)) = true) (e1 : m_at tab pc = some (m_put 4 2 ty)) (kk : ∀ h1, Htx h1 q (x_at X v) → Chg q (q + 5) h h1 → m_E C tab (pc + 3) ls st h1 Q) : m_E C tab pc ls (.int (nI v) :: .ref q :: st) h Q :=
  m_E.pg H.2.1 H.1 hf (Nat.le_of_ble_eq_true rfl) e1 (fun h1 u => kk _ (H.obj (Y := x_at X v) u rfl rfl rfl rfl) (u.chg (by omega) (by omega)))
theorem Htx.p6 {v : Nat} (H : Htx h q X) (hf : m_fit ty (.int (nI v)) = true) (e1 : m_at tab pc = some (m_put 4 6 ty)) (kk : ∀ h1, Htx h1 q (x_cnt X v) → Chg q (q + 5) h h1 → m_E C tab (pc + 3) ls st h1 Q) : m_E C tab pc ls (.int (nI v) :: .ref q :: st) h Q :=
  m_E.pg H.2.1 H.1 hf (Nat.le_of_ble_eq_true rfl) e1 (fun h1 u => kk _ (H.obj (Y := x_cnt X v) u rfl rfl rfl rfl) (u.chg (by omega) (by omega)))
end
def x_sg (X : c_Tx) (k : Nat) : Nat := if k < x_len X then (x_signs X).getD k 0 else 0
theorem x_sg_lt {X : c_Tx} (ok : Okx X) (k : Nat) : x_sg X k < 65536 := by
  rw [x_sg]
  split
  · exact g_getD_lt ok.2.1 (by have := ok.1; have := ok.2.2.1; omega)
  · decide
theorem x_sg_at (X : c_Tx) (n : Nat) : x_sg (x_at X n) = x_sg X := rfl
