/-! none of the sums is a NaN -/
def g_isf (d : FP.Core.Datum) : Bool := match d with
  | .fin _ _ _ => true
  | _ => false
theorem g_num_parts : ∀ n, n < 25 → 1 ≤ n → g_part n &&& 0x7fffffff ≤ 0x7f800000 ∧ g_isf (FP.Core.val32 (g_part n)) = true := by decide +kernel
theorem g_ffin {a : UInt32} (h : g_isf (FP.Core.val32 a) = true) : FP.Core.FFin a := by
  unfold FP.Core.FFin
  cases e : FP.Core.val32 a with
  | nan => rw [e] at h; cases h
  | inf s => rw [e] at h; cases h
  | fin s c q => first | exact ⟨s, c, q, rfl⟩ | exact ⟨s, c, q, e⟩
theorem g_nn {a : UInt32} (h : FP.Core.fIsNaN a = false) : a &&& 0x7fffffff ≤ 0x7f800000 := by
  have b : ¬ 2139095040 < a.toNat % 2 ^ 31 := fun z => by
    have q := (FP.Core.isNaN_bits32 a).mpr z
    rw [h] at q
    cases q
  have e1 : (0x7fffffff : UInt32).toNat = 2 ^ 31 - 1 := by decide
  have e2 : (0x7f800000 : UInt32).toNat = 2139095040 := by decide
  rw [UInt32.le_iff_toNat_le, UInt32.toNat_and, e1, e2, Nat.and_two_pow_sub_one_eq_mod]
  omega
theorem g_sum_nn (f : Nat → Nat) : ∀ k, (∀ j, j < k → 1 ≤ f j ∧ f j ≤ 24) → FP.Core.fIsNaN (g_sum f k) = false
  | 0, _ => by
    show FP.Core.fIsNaN FP.fconst0 = false
    decide
  | k + 1, h => by
    have h1 := h k (by omega)
    show FP.Core.fIsNaN (FP.Core.fadd (g_sum f k) (g_part (f k))) = false
    exact FP.Core.fadd_out (g_sum_nn f k (fun j hj => h j (by omega))) (g_ffin (g_num_parts (f k) (by omega) h1.1).2)
theorem g_num_ok : g_num := by
  unfold g_num
  exact ⟨fun n h1 h2 => (g_num_parts n (by omega) h1).1, fun f k h => g_nn (g_sum_nn f k h)⟩
theorem r_chances_nn {F : Nat → c_Sh} {S : c_St} : FP.Core.fIsNaN (r_chances F S) = false := by
  unfold r_chances
  cases c_fr S with
  | none =>
    show FP.Core.fIsNaN 3212836864 = false
    decide
  | some k => exact g_sum_nn _ _ (fun j hj => ⟨g_can_pos hj, Nat.le_trans g_can_lt (Nat.sub_le _ _)⟩)
theorem y_fself {a : UInt32} (h : FP.Core.fIsNaN a = false) : Op.cmpValue (FP.fcmp a a) .l = nI 0 := by
  have e : FP.Core.val32 a ≠ .nan := fun z => by
    have q : FP.Core.fIsNaN a = true := decide_eq_true z
    rw [h] at q
    cases q
  have e2 : FP.fcmp a a = some .eq := FP.Core.fcmp_self e
  rw [e2]
  rfl
theorem y_num_ok : y_num := ⟨g_num_ok, fun _ _ => y_fself r_chances_nn⟩
theorem m_goal_ok : m_Goal := fun xs hx => by
  obtain ⟨n, r, h', k1, k2, k3, k4⟩ := y_main y_num_ok hx
  rw [k2] at k1
  exact ⟨n, h', k1, k3, k4⟩
