/-! the class as a whole -/
abbrev c_W : Type := c_St × c_St × (Nat → c_St) × Nat × Nat × c_Tx × Bool
def w_now (W : c_W) : c_St := W.1
def w_snap (W : c_W) : c_St := W.2.1
def w_ring (W : c_W) : Nat → c_St := W.2.2.1
def w_next (W : c_W) : Nat := W.2.2.2.1
def w_size (W : c_W) : Nat := W.2.2.2.2.1
def w_text (W : c_W) : c_Tx := W.2.2.2.2.2.1
def w_kept (W : c_W) : Bool := W.2.2.2.2.2.2
def w_mk (S Z : c_St) (R : Nat → c_St) (next size : Nat) (X : c_Tx) (kept : Bool) : c_W := (S, Z, R, next, size, X, kept)
def w_S (W : c_W) (S : c_St) : c_W := w_mk S (w_snap W) (w_ring W) (w_next W) (w_size W) (w_text W) (w_kept W)
def w_X (W : c_W) (X : c_Tx) : c_W := w_mk (w_now W) (w_snap W) (w_ring W) (w_next W) (w_size W) X (w_kept W)
def w_rec (W : c_W) : c_W := w_mk (w_now W) (w_snap W) (g_upd (w_ring W) (w_next W) (w_now W)) ((w_next W + 1) % 4) (min (w_size W + 1) 4) (w_text W) (w_kept W)
def s_ok (s : c_Sh) : Prop := g_sm s ∧ (∀ x, x ∈ s.1 → x < 24) ∧ g_perm s.1
/-- the sheets that there are: their cells, all behind 68 -/
def Shp (h : m_Hp) (n : List Nat) (F : Nat → c_Sh) : Prop := 69 ≤ h.length ∧ ∀ k, k ∈ n → 69 ≤ k ∧ k + 4 ≤ h.length ∧ Hsh h k (F k) ∧ s_ok (F k)
def g_rfs (n : List Nat) (T : c_St) : Prop := (∀ k, some k ∈ c_pile T → k ∈ n) ∧ (∀ j, j < c_piled T → ∃ i, i ∈ n ∧ (c_pile T).getD j none = some i) ∧ (∀ k, c_fr T = some k → k ∈ n)
def Tok (n : List Nat) (p : Nat) (T : c_St) : Prop := Oks T ∧ c_printed T ≤ p ∧ g_rfs n T ∧ g_perm (c_cards T) ∧ (c_fr T ≠ none → g_perm (c_order T)) ∧ (c_fr T = none → c_dealt T = 0) ∧ 1 ≤ (c_settings T).getD 0 0
theorem Tok.up {n n2 : List Nat} {p p2 : Nat} {T : c_St} (t : Tok n p T) (h1 : ∀ k, k ∈ n → k ∈ n2) (h2 : p ≤ p2) : Tok n2 p2 T := by
  obtain ⟨k1, k2, ⟨r1, r2, r3⟩, k4⟩ := t
  exact ⟨k1, by omega, ⟨fun k hk => h1 k (r1 k hk), fun j hj => by obtain ⟨i, hi, e⟩ := r2 j hj; exact ⟨i, h1 i hi, e⟩, fun k hk => h1 k (r3 k hk)⟩, k4⟩
def Okw (n : List Nat) (p : Nat) (W : c_W) : Prop := Tok n p (w_now W) ∧ Tok n p (w_snap W) ∧ (∀ j, j < 4 → Tok n p (w_ring W j)) ∧ Okx (w_text W)
theorem Okw.up {n n2 : List Nat} {p p2 : Nat} {W : c_W} (t : Okw n p W) (h1 : ∀ k, k ∈ n → k ∈ n2) (h2 : p ≤ p2) : Okw n2 p2 W := ⟨t.1.up h1 h2, t.2.1.up h1 h2, fun j hj => (t.2.2.1 j hj).up h1 h2, t.2.2.2⟩
theorem Okw.rec {n : List Nat} {p : Nat} {W : c_W} (t : Okw n p W) : Okw n p (w_rec W) := by
  refine ⟨t.1, t.2.1, fun j hj => ?_, t.2.2.2⟩
  show Tok n p (g_upd (w_ring W) (w_next W) (w_now W) j)
  by_cases e : j = w_next W
  · rw [e, g_upd_at]; exact t.1
  · rw [g_upd_off _ _ e]; exact t.2.2.1 j hj
theorem Okw.setS {n : List Nat} {p : Nat} {W : c_W} (t : Okw n p W) {S : c_St} (s : Tok n p S) : Okw n p (w_S W S) := ⟨s, t.2.1, t.2.2.1, t.2.2.2⟩
theorem Okw.setX {n : List Nat} {p : Nat} {W : c_W} (t : Okw n p W) {X : c_Tx} (s : Okx X) : Okw n p (w_X W X) := ⟨t.1, t.2.1, t.2.2.1, s⟩
/-- what the cells up to the sheets hold -/
def Hcl (h : m_Hp) (n : List Nat) (F : Nat → c_Sh) (W : c_W) : Prop := (h[0]? = some (.inl (0, [nI 10, nI 3, nI 4, nI 12])) ∧ h[1]? = some (.inl (0, [nI 1, nI 0, nI 0, nI 1])) ∧ h[2]? = some (.inl (0, [nI 99, nI 9, nI 24, nI 99]))) ∧ h[4]? = some (x_obj (w_kept W)) ∧ Hst h 5 (w_now W) ∧ Hst h 13 (w_snap W) ∧ Hhi h 21 (w_next W) (w_size W) (w_ring W) ∧ Htx h 55 (w_text W) ∧ (∃ zs, h[60]? = some (.inl (0, zs)) ∧ zs.length = 24) ∧ Shp h n F
/-- what a call leaves as it was -/
def Frm (h h2 : m_Hp) : Prop := h.length ≤ h2.length ∧ ∀ k, k < h.length → (k < 4 ∨ 61 ≤ k) → h2[k]? = h[k]?
theorem Frm.rf {h : m_Hp} : Frm h h := ⟨Nat.le_refl _, fun _ _ _ => rfl⟩
theorem Frm.tr {h h1 h2 : m_Hp} (a : Frm h h1) (b : Frm h1 h2) : Frm h h2 := ⟨Nat.le_trans a.1 b.1, fun k hk hk2 => (b.2 k (by have := a.1; omega) hk2).trans (a.2 k hk hk2)⟩
theorem Chg.frm {lo hi : Nat} {h h1 : m_Hp} (c : Chg lo hi h h1) (h4 : 4 ≤ lo) (h5 : hi ≤ 61) : Frm h h1 := ⟨Nat.le_of_eq c.1.symm, fun k _ h2 => c.2 k (by omega)⟩
section
variable {h : m_Hp} {n : List Nat} {p : Nat} {F : Nat → c_Sh} {W : c_W}
theorem Hcl.o (H : Hcl h n F W) : h[4]? = some (x_obj (w_kept W)) := H.2.1
theorem Hcl.now (H : Hcl h n F W) : Hst h 5 (w_now W) := H.2.2.1
theorem Hcl.snap (H : Hcl h n F W) : Hst h 13 (w_snap W) := H.2.2.2.1
theorem Hcl.hist (H : Hcl h n F W) : Hhi h 21 (w_next W) (w_size W) (w_ring W) := H.2.2.2.2.1
theorem Hcl.tx (H : Hcl h n F W) : Htx h 55 (w_text W) := H.2.2.2.2.2.1
theorem Hcl.spare (H : Hcl h n F W) : ∃ zs, h[60]? = some (.inl (0, zs)) ∧ zs.length = 24 := H.2.2.2.2.2.2.1
theorem Hcl.shp (H : Hcl h n F W) : Shp h n F := H.2.2.2.2.2.2.2
theorem Shp.off {h1 : m_Hp} {lo hi : Nat} (s : Shp h n F) (c : Chg lo hi h h1) (hh : hi ≤ 69) : Shp h1 n F := ⟨by rw [c.1]; exact s.1, fun k hk => by obtain ⟨q1, q2, q3, q4⟩ := s.2 k hk; exact ⟨q1, by rw [c.1]; exact q2, q3.off c (by omega), q4⟩⟩
/-- the state now has changed -/
theorem Hcl.setS (H : Hcl h n F W) {S : c_St} {h1 : m_Hp} (c : Chg 5 13 h h1) (hs : Hst h1 5 S) : Hcl h1 n F (w_S W S) := by
  obtain ⟨⟨a0, a1, a2⟩, a4, _, a6, a7, a8, a9, a10⟩ := H
  exact ⟨⟨(c.2 _ (by omega)).trans a0, (c.2 _ (by omega)).trans a1, (c.2 _ (by omega)).trans a2⟩, (c.2 _ (by omega)).trans a4, hs, a6.off c (by omega), a7.off c (by omega), a8.off c (by omega), by obtain ⟨zs, z1, z2⟩ := a9; exact ⟨zs, (c.2 _ (by omega)).trans z1, z2⟩, a10.off c (by omega)⟩
theorem Hcl.setX (H : Hcl h n F W) {X : c_Tx} {h1 : m_Hp} (c : Chg 55 60 h h1) (hs : Htx h1 55 X) : Hcl h1 n F (w_X W X) := by
  obtain ⟨⟨a0, a1, a2⟩, a4, a5, a6, a7, _, a9, a10⟩ := H
  exact ⟨⟨(c.2 _ (by omega)).trans a0, (c.2 _ (by omega)).trans a1, (c.2 _ (by omega)).trans a2⟩, (c.2 _ (by omega)).trans a4, a5.off c (by omega), a6.off c (by omega), a7.off c (by omega), hs, by obtain ⟨zs, z1, z2⟩ := a9; exact ⟨zs, (c.2 _ (by omega)).trans z1, z2⟩, a10.off c (by omega)⟩
theorem Hcl.setR (H : Hcl h n F W) {R : Nat → c_St} {next size : Nat} {h1 : m_Hp} (c : Chg 21 55 h h1) (hs : Hhi h1 21 next size R) : Hcl h1 n F (w_mk (w_now W) (w_snap W) R next size (w_text W) (w_kept W)) := by
  obtain ⟨⟨a0, a1, a2⟩, a4, a5, a6, _, a8, a9, a10⟩ := H
  exact ⟨⟨(c.2 _ (by omega)).trans a0, (c.2 _ (by omega)).trans a1, (c.2 _ (by omega)).trans a2⟩, (c.2 _ (by omega)).trans a4, a5.off c (by omega), a6.off c (by omega), hs, a8.off c (by omega), by obtain ⟨zs, z1, z2⟩ := a9; exact ⟨zs, (c.2 _ (by omega)).trans z1, z2⟩, a10.off c (by omega)⟩
theorem Hcl.ref (H : Hcl h n F W) {k : Nat} (hk : k ∈ n) : 69 ≤ k ∧ k + 4 ≤ h.length ∧ ∃ fs, h[k]? = some (.inr (.inl (2, fs))) := by
  obtain ⟨q1, q2, q3, q4⟩ := H.shp.2 k hk
  exact ⟨q1, q2, _, q3.2.1⟩
/-- the state now goes into the history -/
theorem c_rec {d : Nat} (H : Hcl h n F W) (ok : Okw n p W) : ∃ h2, m_Call m_P (d + 5) 1 [.ref 21, .ref 5] h none h2 ∧ Hcl h2 n F (w_rec W) ∧ Frm h h2 ∧ h2.length = h.length := by
  obtain ⟨_, h2, p1, rfl, p2, p3⟩ := c_record (d := d) H.hist H.now ok.1.1 (by omega) (fun k hk => by obtain ⟨q1, q2, q3⟩ := H.ref (ok.1.2.2.1.1 k hk); exact ⟨by omega, by omega, q3⟩)
  exact ⟨h2, p1, H.setR p3 p2, p3.frm (by omega) (by omega), p3.1⟩
end
/-- the class after a call that told a value and, perhaps, made a new state -/
def w_res (W : c_W) (o : Option c_St) : c_W := match o with
  | none => W
  | some S => w_S (w_rec W) S
/-- a call that tells a value and, perhaps, makes a new state -/
def Opr (d z : Nat) (as : List Value) (h : m_Hp) (n : List Nat) (p : Nat) (F : Nat → c_Sh) (W : c_W) (v : Int32) (o : Option c_St) : Prop := ∃ r h2, m_Call m_P (d + 6) z as h r h2 ∧ (r = some (.int v) ∧ Hcl h2 n F (w_res W o) ∧ Okw n p (w_res W o) ∧ Frm h h2 ∧ h2.length = h.length)
def a_swap (S : c_St) (x y : Int32) : Int32 × Option c_St := if g_in 24 x = true ∧ g_in 24 y = true then (if x = y then (-5, none) else (nI ((c_cards S).getD y.toNatClampNeg 0), some (c_setCards S (((c_cards S).set x.toNatClampNeg ((c_cards S).getD y.toNatClampNeg 0)).set y.toNatClampNeg ((c_cards S).getD x.toNatClampNeg 0))))) else (-1, none)
