/-! what the law is told of an object -/
def y_t1 (F : Nat → c_Sh) (W : c_W) : Nat → Int64
  | 0 => 173
  | k + 1 => 31 * y_t1 F W k + (if k = 12 ∨ k = 13 then nI 0 else r_cnt F W k).toInt64
def y_u1 (S : c_St) (k : Nat) (v : Int64) : Int64 := 31 * (31 * v + (r_block S (nI k) (nI 0)).toInt64) + (r_block S (nI k) (nI 1)).toInt64
def y_u2 (F : Nat → c_Sh) (S : c_St) (k : Nat) (v : Int64) : Int64 := 31 * (31 * v + (r_cardOf F S (nI k) (nI 1)).toInt64) + (r_cardOf F S (nI k) (nI 2)).toInt64
def y_u3 (F : Nat → c_Sh) (S : c_St) (k : Nat) (v : Int64) : Int64 := 31 * (31 * v + (r_sheet F S (nI 0) (nI k) (nI 0)).toInt64) + (r_sheet F S (nI 5) (nI k) (nI 1)).toInt64 + (r_cardOf F S (nI k) (nI 3)).toInt64
def y_t2 (F : Nat → c_Sh) (W : c_W) : Nat → Int64
  | 0 => y_t1 F W 18
  | k + 1 => y_u3 F (w_now W) k (y_u2 F (w_now W) k (y_u1 (w_now W) k (y_t2 F W k)))
theorem y_cnt {F : Nat → c_Sh} {W : c_W} {k : Nat} (hk : k < 18) : r_count F W (nI k) = r_cnt F W k := by
  rw [r_count, if_pos (g_in_yes hk (by decide)), m_cl (by omega)]
theorem y_told {d : Nat} {n : List Nat} {p : Nat} {F : Nat → c_Sh} {W : c_W} {h : m_Hp} (H : Hcl h n F W) (ok : Okw n p W) : m_Call m_P (d + 7) 92 [.ref 4] (h) (some (.long (y_t2 F W 24))) (h) := by
  refine m_call_of (tab := tL_told) (nL := 4) rfl rfl ?_
  refine m_E.run 4 (pc1 := 6) (ls1 := [some _, some _, none, some _]) (st1 := []) rfl ?_
  refine m_E.up (fun i => (6, [some (.ref 4), some (.long (y_t1 F W i)), none, some (.int (nI i))], [], h)) 18 (fun i => True) (fun i hi hI K => ?_) ?_ (fun hI => ?_)
  · skip
    show m_E _ _ 6 [some (.ref 4), some (.long (y_t1 F W i)), none, some (.int (nI i))] [] (h) _
    have tail : ∀ x, x = (if i = 12 ∨ i = 13 then nI 0 else r_cnt F W i) → m_E (m_Call m_P (d + 6)) tL_told 38 [some (.ref 4), some (.long (y_t1 F W i)), none, some (.int (nI i))] [.int x, .long (31 * y_t1 F W i)] h (fun r2 h2 => r2 = some (.long (y_t2 F W 24)) ∧ h2 = h) := by
      intro x hx
      subst hx
      refine m_E.run 5 (pc1 := 6) (ls1 := [some _, some _, none, some _]) (st1 := []) rfl ?_
      dsimp only
      rw [nI_add]
      exact K trivial
    refine m_E.run 2 (pc1 := 9) (ls1 := [some _, some _, none, some _]) (st1 := [_, _]) rfl ?_
    refine m_E.icf ((m_leI (by omega) (by omega)).trans (decide_eq_false (by omega))) rfl ?_
    refine m_E.run 5 (pc1 := 20) (ls1 := [some _, some _, none, some _]) (st1 := [_, _, _]) rfl ?_
    dsimp only
    by_cases e12 : i = 12
    · skip
      refine m_E.ict (by rw [e12]; decide) rfl ?_
      refine m_E.run 2 (pc1 := 38) (ls1 := [some _, some _, none, some _]) (st1 := [_, _]) rfl ?_
      exact tail (nI 0) (if_pos (Or.inl e12)).symm
    · skip
      refine m_E.icf ((m_beqI (by omega) (by omega)).trans (decide_eq_false e12)) rfl ?_
      refine m_E.run 2 (pc1 := 26) (ls1 := [some _, some _, none, some _]) (st1 := [_, _, _]) rfl ?_
      by_cases e13 : i = 13
      · skip
        refine m_E.icf (by rw [e13]; decide) rfl ?_
        refine m_E.run 2 (pc1 := 38) (ls1 := [some _, some _, none, some _]) (st1 := [_, _]) rfl ?_
        exact tail (nI 0) (if_pos (Or.inr e13)).symm
      · skip
        refine m_E.ict ((m_neI (by omega) (by omega)).trans (decide_eq_true e13)) rfl ?_
        refine m_E.run 2 (pc1 := 35) (ls1 := [some _, some _, none, some _]) (st1 := [_, _, _]) rfl ?_
        refine m_E.ov H.o (by decide) rfl rfl rfl (o_count (y := nI i) H ok) ?_
        exact tail _ ((y_cnt hi).trans (if_neg (fun z => by rcases z with z | z; exact e12 z; exact e13 z)).symm)
  · skip
    trivial
  · skip
    show m_E _ _ 6 ((fun i => [some (.ref 4), some (.long (y_t1 F W i)), none, some (.int (nI i))]) (18)) [] ((fun i => h) (18)) _
    dsimp only
    refine m_E.run 2 (pc1 := 9) (ls1 := [some _, some _, none, some _]) (st1 := [_, _]) rfl ?_
    refine m_E.ict (by decide) rfl ?_
    refine m_E.run 2 (pc1 := 49) (ls1 := [some _, some _, none, some _]) (st1 := []) rfl ?_
    refine m_E.up (fun i => (49, [some (.ref 4), some (.long (y_t2 F W i)), none, some (.int (nI i))], [], h)) 24 (fun i => True) (fun i hi hI K => ?_) ?_ (fun hI => ?_)
    · skip
      show m_E _ _ 49 [some (.ref 4), some (.long (y_t2 F W i)), none, some (.int (nI i))] [] (h) _
      refine m_E.run 2 (pc1 := 52) (ls1 := [some _, some _, none, some _]) (st1 := [_, _]) rfl ?_
      refine m_E.icf ((m_leI (by omega) (by omega)).trans (decide_eq_false (by omega))) rfl ?_
      refine m_E.run 7 (pc1 := 66) (ls1 := [some _, some _, none, some _]) (st1 := [_, _, _, _, _]) rfl ?_
      dsimp only
      refine m_E.ov H.o (by decide) rfl rfl rfl (o_block H ok) ?_
      refine m_E.run 6 (pc1 := 75) (ls1 := [some _, some _, none, some _]) (st1 := [_, _, _, _]) rfl ?_
      dsimp only
      refine m_E.ov H.o (by decide) rfl rfl rfl (o_block H ok) ?_
      refine m_E.run 10 (pc1 := 92) (ls1 := [some _, some _, none, some _]) (st1 := [_, _, _, _, _]) rfl ?_
      dsimp only
      refine m_E.ov H.o (by decide) rfl rfl rfl (o_cardOf H ok) ?_
      refine m_E.run 6 (pc1 := 101) (ls1 := [some _, some _, none, some _]) (st1 := [_, _, _, _]) rfl ?_
      dsimp only
      refine m_E.ov H.o (by decide) rfl rfl rfl (o_cardOf H ok) ?_
      refine m_E.run 11 (pc1 := 119) (ls1 := [some _, some _, none, some _]) (st1 := [_, _, _, _, _, _]) rfl ?_
      dsimp only
      refine m_E.ov H.o (by decide) rfl rfl rfl (o_sheet H ok) ?_
      refine m_E.run 7 (pc1 := 129) (ls1 := [some _, some _, none, some _]) (st1 := [_, _, _, _, _]) rfl ?_
      dsimp only
      refine m_E.ov H.o (by decide) rfl rfl rfl (o_sheet H ok) ?_
      refine m_E.run 5 (pc1 := 137) (ls1 := [some _, some _, none, some _]) (st1 := [_, _, _, _]) rfl ?_
      dsimp only
      refine m_E.ov H.o (by decide) rfl rfl rfl (o_cardOf H ok) ?_
      refine m_E.run 5 (pc1 := 49) (ls1 := [some _, some _, none, some _]) (st1 := []) rfl ?_
      dsimp only
      rw [nI_add]
      exact K trivial
    · skip
      trivial
    · skip
      show m_E _ _ 49 ((fun i => [some (.ref 4), some (.long (y_t2 F W i)), none, some (.int (nI i))]) (24)) [] ((fun i => h) (24)) _
      dsimp only
      refine m_E.run 2 (pc1 := 52) (ls1 := [some _, some _, none, some _]) (st1 := [_, _]) rfl ?_
      refine m_E.ict (by decide) rfl ?_
      refine m_E.run 1 (pc1 := 150) (ls1 := [some _, some _, none, some _]) (st1 := [_]) rfl ?_
      exact m_E.ret rfl rfl ⟨rfl, rfl⟩
/-! it speaks of the state now alone -/
section
variable {n : List Nat} {p : Nat} {F F2 : Nat → c_Sh} {S : c_St} {W W2 : c_W}
theorem y_shf2 (t : Tok n p S) (e : ∀ k, k ∈ n → g_sh F2 k = g_sh F k) : c_shf F2 S = c_shf F S := y_shf rfl (fun s hs => e s (t.2.2.1.2.2 s hs))
theorem y_cnt2 (t : Tok n p (w_now W)) (e : ∀ k, k ∈ n → g_sh F2 k = g_sh F k) (hS : w_now W2 = w_now W) {k : Nat} (hk : k < 18) (h12 : ¬ (k = 12 ∨ k = 13)) : r_cnt F2 W2 k = r_cnt F W k := by
  have es := y_shf2 t e
  have e1 : ∀ j, q_can F2 (w_now W) j = q_can F (w_now W) j := fun j => by rw [q_can, q_can, es]
  have e2 : ∀ j, q_gs F2 (w_now W) j = q_gs F (w_now W) j := fun j => by rw [q_gs, q_gs, es]
  match k, hk with
  | 0, _ => simp only [r_cnt, hS]
  | 1, _ => simp only [r_cnt, hS]
  | 2, _ => simp only [r_cnt, hS]
  | 3, _ => simp only [r_cnt, hS]
  | 4, _ => simp only [r_cnt, hS]
  | 5, _ => simp only [r_cnt, hS, e1]
  | 6, _ => simp only [r_cnt, hS, e2]
  | 7, _ => simp only [r_cnt, hS]
  | 8, _ => simp only [r_cnt, hS]
  | 9, _ => simp only [r_cnt, hS]
  | 10, _ => simp only [r_cnt, hS]
  | 11, _ => simp only [r_cnt, hS]
  | 12, _ => exact absurd (Or.inl rfl) h12
  | 13, _ => exact absurd (Or.inr rfl) h12
  | 14, _ => simp only [r_cnt, hS]
  | 15, _ => simp only [r_cnt, hS]
  | 16, _ => simp only [r_cnt, hS]
  | 17, _ => simp only [r_cnt, hS]
  | k + 18, hk => exact absurd hk (by omega)
theorem y_marks2 (t : Tok n p S) (e : ∀ k, k ∈ n → g_sh F2 k = g_sh F k) (c : Nat) : r_marks F2 S c = r_marks F S c := by
  rw [r_marks, r_marks]
  cases ef : c_fr S with
  | none => rfl
  | some s => dsimp only; rw [e s (t.2.2.1.2.2 s ef)]
theorem y_card2 (t : Tok n p S) (e : ∀ k, k ∈ n → g_sh F2 k = g_sh F k) (x y : Int32) : r_cardOf F2 S x y = r_cardOf F S x y := by
  rw [r_cardOf, r_cardOf, y_marks2 t e]
theorem y_sheet2 (t : Tok n p S) (e : ∀ k, k ∈ n → g_sh F2 k = g_sh F k) (x y z : Int32) : r_sheet F2 S x y z = r_sheet F S x y z := by
  rw [r_sheet, r_sheet]
  by_cases c : g_in (c_piled S) x = true ∧ g_in 24 y = true
  · rw [if_pos c, if_pos c]
    have lp := t.1.2.2.2.2.2.2.2.2.2.2.2.1
    obtain ⟨j, hj, rfl⟩ := g_in_of c.1 (by omega)
    obtain ⟨i, hi, ei⟩ := t.2.2.1.2.1 (c_piled S - 1 - j) (by omega)
    rw [m_cl (by omega), ei]
    dsimp only
    rw [e i hi]
  · rw [if_neg c, if_neg c]
theorem y_tell1 (t : Tok n p (w_now W)) (e : ∀ k, k ∈ n → g_sh F2 k = g_sh F k) (hS : w_now W2 = w_now W) : ∀ k, k ≤ 18 → y_t1 F2 W2 k = y_t1 F W k
  | 0, _ => rfl
  | k + 1, hk => by
    rw [y_t1, y_t1, y_tell1 t e hS k (by omega)]
    by_cases c : k = 12 ∨ k = 13
    · rw [if_pos c, if_pos c]
    · rw [if_neg c, if_neg c, y_cnt2 t e hS (by omega) c]
theorem y_tell2 (t : Tok n p (w_now W)) (e : ∀ k, k ∈ n → g_sh F2 k = g_sh F k) (hS : w_now W2 = w_now W) : ∀ k, y_t2 F2 W2 k = y_t2 F W k
  | 0 => y_tell1 t e hS 18 (Nat.le_refl _)
  | k + 1 => by
    rw [y_t2, y_t2, y_tell2 t e hS k, hS, y_u3, y_u3, y_u2, y_u2, y_card2 t e, y_card2 t e, y_card2 t e, y_sheet2 t e, y_sheet2 t e]
end
