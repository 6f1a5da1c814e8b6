/-! what holds at each turn of the law's loop -/
theorem Hcl.mo {h h1 : m_Hp} {n : Nat} {F : Nat → c_Sh} {W : c_W} (H : Hcl h n F W) (c : Chg 61 69 h h1) : Hcl h1 n F W := by
  obtain ⟨⟨a0, a1, a2⟩, a4, a5, a6, a7, a8, a9, a10⟩ := H
  exact ⟨⟨(c.2 _ (by omega)).trans a0, (c.2 _ (by omega)).trans a1, (c.2 _ (by omega)).trans a2⟩, (c.2 _ (by omega)).trans a4, a5.off c (by omega), a6.off c (by omega), a7.off c (by omega), a8.off c (by omega), by obtain ⟨zs, z1, z2⟩ := a9; exact ⟨zs, (c.2 _ (by omega)).trans z1, z2⟩, a10.off c (by omega)⟩
theorem Frm.row {h h1 : m_Hp} {n : Nat} {F : Nat → c_Sh} {W : c_W} {c : m_Cel} (H : Hcl h n F W) (hs : h[3]? = some c) (f : Frm h h1) : h1[3]? = some c := (f.2 3 (by have := H.shp.1; omega) (Or.inl (by decide))).trans hs
def Jw (xs : List Int32) (j : Nat) (h : m_Hp) : Prop := ∃ (n p : Nat) (F : Nat → c_Sh) (W : c_W) (M : c_M), Hcl h n F W ∧ Okw n p W ∧ Hmo h M ∧ Okm M ∧ Rl F W M ∧ h[3]? = some (.inl (0, xs)) ∧ n ≤ j ∧ p ≤ j
theorem m_chr_law (x : Int32) : ∃ c, c < 65536 ∧ (x.toUInt32 % 65536).toInt32 = nI c := by
  refine ⟨x.toUInt32.toNat % 65536, Nat.mod_lt _ (by decide), ?_⟩
  have e : x.toUInt32 % 65536 = UInt32.ofNat (x.toUInt32.toNat % 65536) := by
    apply UInt32.toNat_inj.mp
    rw [m_u32 (by omega), UInt32.toNat_mod]
    rfl
  rw [e]; rfl
theorem m_and31 (x : Int32) : ∃ w, w < 32 ∧ x &&& nI 31 = nI w := by
  refine ⟨x.toBitVec.toNat % 32, Nat.mod_lt _ (by decide), ?_⟩
  apply Int32.toBitVec_inj.1
  show x.toBitVec &&& BitVec.ofNat 32 31 = BitVec.ofNat 32 (x.toBitVec.toNat % 32)
  apply BitVec.eq_of_toNat_eq
  rw [BitVec.toNat_and, BitVec.toNat_ofNat, BitVec.toNat_ofNat, show 31 % 2 ^ 32 = 2 ^ 5 - 1 from rfl, Nat.and_two_pow_sub_one_eq_mod]
  omega
