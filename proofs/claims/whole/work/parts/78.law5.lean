/-! the law's call of chances -/
theorem g_nnd {a : UInt64} (h : FP.Core.dIsNaN a = false) : a &&& 0x7fffffffffffffff ≤ 0x7ff0000000000000 := by
  have b : ¬ 9218868437227405312 < a.toNat % 2 ^ 63 := fun z => by
    have q := (FP.Core.isNaN_bits a).mpr z
    rw [h] at q
    cases q
  have e1 : (0x7fffffffffffffff : UInt64).toNat = 2 ^ 63 - 1 := by decide
  have e2 : (0x7ff0000000000000 : UInt64).toNat = 9218868437227405312 := by decide
  rw [UInt64.le_iff_toNat_le, UInt64.toNat_and, e1, e2, Nat.and_two_pow_sub_one_eq_mod]
  omega
theorem r_chances_nn {F : Nat → c_Sh} {S : c_St} : FP.Core.fIsNaN (r_chances F S) = false := by
  unfold r_chances
  cases c_fr S with
  | none =>
    show FP.Core.fIsNaN 3212836864 = false
    decide
  | some k => exact g_sum_nn _ _ (fun j hj => ⟨g_can_pos hj, Nat.le_trans g_can_lt (Nat.sub_le _ _)⟩)
theorem r_chances_d {F : Nat → c_Sh} {S : c_St} : FP.f2d (r_chances F S) &&& 0x7fffffffffffffff ≤ 0x7ff0000000000000 := g_nnd ((FP.f2d_nan _).trans r_chances_nn)
theorem m_E.f2d {C : m_CR} {tab : m_Tab} {pc : Nat} {ls : m_Ls} {st : List Value} {h : m_Hp} {Q : Option Value → m_Hp → Prop} {x : UInt32} (hn : FP.f2d x &&& 0x7fffffffffffffff ≤ 0x7ff0000000000000) (e1 : m_at tab pc = some m_f2d) (kk : m_E C tab (pc + 1) ls (.double (FP.f2d x) :: st) h Q) : m_E C tab pc ls (.float x :: st) h Q := m_E.op e1 (by unfold m_f2d; dsimp only; rw [if_pos hn]) kk
set_option maxRecDepth 100000 in
theorem l_chances {xs : List Int32} {j : Nat} {v4 v5 v6 v7 : Option Value} {h : m_Hp} {Q : Option Value → m_Hp → Prop} (J : Jw xs j h) (K : ∀ h2 v4 v5 v6 v7, Jw xs (j + 1) h2 → m_E (m_Call m_P 8) tL_law 901 [some (.ref 3), some (.ref 4), some (.ref 61), some (.int (nI (4 * j))), v4, v5, v6, v7] [] h2 Q) : m_E (m_Call m_P 8) tL_law 760 [some (.ref 3), some (.ref 4), some (.ref 61), some (.int (nI (4 * j))), v4, v5, v6, v7] [] h Q := by
  obtain ⟨n, p, F, W, M, H, ok, Hm, okm, R, hs, hn, hp⟩ := J
  have hd := r_chances_d (F := F) (S := w_now W)
  refine m_E.run 1 (pc1 := 761) (ls1 := [some _, some _, some _, some _, _, _, _, _]) (st1 := [_]) rfl ?_
  refine m_E.ov H.o (by decide) rfl rfl rfl (o_chances (d := 2) g_num_ok H ok) ?_
  refine m_E.f2d hd rfl ?_
  have c2 := fun (dd : Nat) => e_chances (d := dd) g_num_ok Hm R.1 ok.1 H.gsh
  generalize r_chances F (w_now W) = x at hd c2 ⊢
  generalize ey : FP.f2d x = y
  refine m_E.run 2 (pc1 := 768) (ls1 := [some _, some _, some _, some _, some _, none, _, _]) (st1 := [_]) rfl ?_
  refine m_E.ov Hm.o (by decide) rfl rfl rfl (c2 6) ?_
  refine m_E.f2d hd rfl ?_
  rw [ey]
  have J1 : Jw xs (j + 1) h := ⟨n, p, F, W, M, H, ok, Hm, okm, R, hs, by omega, by omega⟩
  refine m_E.run 4 (pc1 := 779) (ls1 := [some _, some _, some _, some _, some _, none, some _, none]) (st1 := [_]) rfl ?_
  generalize ec : Op.cmpValue (FP.dcmp y y) .l = c
  cases hc : (c == 0) with
  | true =>
    refine m_E.ift hc rfl ?_
    refine m_E.run 1 (pc1 := 901) (ls1 := [some _, some _, some _, some _, some _, none, some _, none]) (st1 := []) rfl ?_
    exact K _ _ _ _ _ J1
  | false =>
    refine m_E.iff hc rfl ?_
    refine m_E.run 3 (pc1 := 787) (ls1 := [some _, some _, some _, some _, some _, none, some _, none]) (st1 := [_]) rfl ?_
    rw [ec]
    refine m_E.iff hc rfl ?_
    refine m_E.run 3 (pc1 := 795) (ls1 := [some _, some _, some _, some _, some _, none, some _, none]) (st1 := [_]) rfl ?_
    rw [ec]
    refine m_E.ift (by show (!(c == 0)) = true; rw [hc]; rfl) rfl ?_
    refine m_E.run 1 (pc1 := 901) (ls1 := [some _, some _, some _, some _, some _, none, some _, none]) (st1 := []) rfl ?_
    exact K _ _ _ _ _ J1
