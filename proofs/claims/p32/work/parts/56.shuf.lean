/-! turning and shuffling the row of cards -/
/-- what the law's methods leave as it was -/
def Lfr (h h2 : m_Hp) : Prop := h.length ≤ h2.length ∧ ∀ j, j < h.length → (j < 61 ∨ 69 ≤ j) → h2[j]? = h[j]?
theorem Chg.lfr {h h2 : m_Hp} (c : Chg 61 69 h h2) : Lfr h h2 := ⟨Nat.le_of_eq c.1.symm, fun j _ hj => c.2 j hj⟩
theorem y_turns {d : Nat} {many N : Nat} {x : Int32} {R : y_R} {h : m_Hp} (H : Hrw h R) (ok : Okr R) (hx : x = nI many) (hm : many < 1000) (hq : (y_q R).getD 7 0 = nI N) (h0 : 0 < N) (h1 : N ≤ 24) : ∃ r h', m_Call m_P (d + 1) 82 [.int x, .ref 61, .ref 66] (h) r h' ∧ (fun r h2 => r = none ∧ ∃ vc, Hrw h2 (y_sc R vc) ∧ Chg 61 69 h h2 ∧ vc.length = 24 ∧ ∀ j, j < N → vc.getD j 0 = (y_c R).getD ((j + many) % N) 0) r h' := by
  refine m_call_ex (tab := tL_turns) (nL := 6) rfl rfl ?_
  subst hx
  refine m_E.run 2 (pc1 := 2) (ls1 := [some _, some _, some _, some _, none, none]) (st1 := []) rfl ?_
  refine m_E.lp (fun i ls hh => ∃ v4, ∃ v5, ls = [some (.int (nI many)), some (.ref 61), some (.ref 66), some (.int (nI i)), v4, v5] ∧ (∃ vc, Hrw hh (y_sc R vc) ∧ Chg 61 69 h hh ∧ vc.length = 24 ∧ ∀ j, j < N → vc.getD j 0 = (y_c R).getD ((j + i) % N) 0)) many ?_ ?_ ?_
  · skip
    rintro i _ hh hi ⟨v4, v5, rfl, hI⟩ K
    obtain ⟨vc, g1, c1, lc, k1⟩ := hI
    have hi : i < many := by assumption
    have ok1 := ok.vc lc
    refine m_E.run 2 (pc1 := 4) (ls1 := [some _, some _, some _, some _, _, _]) (st1 := [_, _]) rfl ?_
    refine m_E.icf ((m_leI (by omega) (by omega)).trans (decide_eq_false (by omega))) rfl ?_
    refine m_E.run 2 (pc1 := 9) (ls1 := [some _, some _, some _, some _, _, _]) (st1 := [_, _]) rfl ?_
    refine m_E.yr g1.2.2.2.2.2.1 ok1.2.2.2.2.2.1 rfl (by omega) (by decide) ((rfl : vc.getD 0 0 = vc.getD 0 0)) rfl ?_
    refine m_E.run 3 (pc1 := 15) (ls1 := [some _, some _, some _, some _, some _, some _]) (st1 := []) rfl ?_
    refine m_E.lp (fun j ls hh => ls = [some (.int (nI many)), some (.ref 61), some (.ref 66), some (.int (nI i)), some (.int (vc.getD 0 0)), some (.int (nI j))] ∧ (∃ vk, Hrw hh (y_sc R vk) ∧ Chg 61 69 h hh ∧ vk.length = 24 ∧ (∀ q, q < j → vk.getD q 0 = vc.getD (q + 1) 0) ∧ ∀ q, j ≤ q → vk.getD q 0 = vc.getD q 0)) (N - 1) ?_ ?_ ?_
    · skip
      rintro j _ hh hi ⟨rfl, hI⟩ K
      obtain ⟨vk, g2, c2, lk, k2, k3⟩ := hI
      have hj : j < N - 1 := by assumption
      have ok2 := ok.vc lk
      refine m_E.run 5 (pc1 := 22) (ls1 := [some _, some _, some _, some _, some _, some _]) (st1 := [_, _, _]) rfl ?_
      dsimp only
      rw [nI_add]
      refine m_E.yr g2.1 ok2.1 rfl (by omega) (by decide) (hq) rfl ?_
      refine m_E.icf ((m_leI (by omega) (by omega)).trans (decide_eq_false (by omega))) rfl ?_
      refine m_E.run 6 (pc1 := 34) (ls1 := [some _, some _, some _, some _, some _, some _]) (st1 := [_, _, _, _]) rfl ?_
      dsimp only
      rw [nI_add]
      refine m_E.yr g2.2.2.2.2.2.1 ok2.2.2.2.2.2.1 rfl (by omega) (by decide) ((k3 (j + 1) (by omega))) rfl ?_
      refine m_E.yc g2 ok2 rfl (by omega) rfl (fun h3 g3 c3 => ?_)
      refine m_E.run 2 (pc1 := 15) (ls1 := [some _, some _, some _, some _, some _, some _]) (st1 := []) rfl ?_
      rw [nI_add]
      refine K _ _ ⟨rfl, _, g3, c2.tr c3, (List.length_set ..).trans lk, fun q hq2 => ?_, fun q hq2 => ?_⟩
      · show (vk.set j _).getD q 0 = _
        by_cases e : q = j
        · rw [e, y_at lk (by omega)]
        · rw [y_off (Ne.symm e)]; exact k2 q (by omega)
      · show (vk.set j _).getD q 0 = _
        rw [y_off (by omega)]; exact k3 q (by omega)
    · skip
      exact ⟨rfl, vc, g1, c1, lc, fun q hq2 => absurd hq2 (Nat.not_lt_zero q), fun q _ => rfl⟩
    · skip
      rintro _ hh ⟨rfl, hI⟩
      obtain ⟨vk, g2, c2, lk, k2, k3⟩ := hI
      have ok2 := ok.vc lk
      refine m_E.run 5 (pc1 := 22) (ls1 := [some _, some _, some _, some _, some _, some _]) (st1 := [_, _, _]) rfl ?_
      dsimp only
      rw [nI_add]
      refine m_E.yr g2.1 ok2.1 rfl (by omega) (by decide) (hq) rfl ?_
      refine m_E.ict ((m_leI (by omega) (by omega)).trans (decide_eq_true (by omega))) rfl ?_
      refine m_E.run 3 (pc1 := 46) (ls1 := [some _, some _, some _, some _, some _, some _]) (st1 := [_, _, _]) rfl ?_
      refine m_E.yr g2.1 ok2.1 rfl (by omega) (by decide) (hq) rfl ?_
      refine m_E.run 3 (pc1 := 51) (ls1 := [some _, some _, some _, some _, some _, some _]) (st1 := [_, _, _]) rfl ?_
      dsimp only
      rw [pk_sub (by omega)]
      refine m_E.yc g2 ok2 rfl (by omega) rfl (fun h3 g3 c3 => ?_)
      refine m_E.run 2 (pc1 := 2) (ls1 := [some _, some _, some _, some _, some _, some _]) (st1 := []) rfl ?_
      rw [nI_add]
      refine K _ _ ⟨_, _, rfl, _, g3, c2.tr c3, (List.length_set ..).trans lk, fun q hq2 => ?_⟩
      show (vk.set (N - 1) (vc.getD 0 0)).getD q 0 = (y_c R).getD ((q + (i + 1)) % N) 0
      by_cases e : q = N - 1
      · rw [e, y_at lk (by omega), k1 0 h0, show N - 1 + (i + 1) = N + i by omega, Nat.add_mod_left, Nat.zero_add]
      · rw [y_off (Ne.symm e), k2 q (by omega), k1 (q + 1) (by omega), show q + 1 + i = q + (i + 1) by omega]
  · skip
    exact ⟨none, none, rfl, y_c R, H, Chg.rf, ok.2.2.2.2.2.1, fun j hj => by rw [Nat.add_zero, Nat.mod_eq_of_lt hj]⟩
  · skip
    rintro _ hh ⟨v4, v5, rfl, hI⟩
    obtain ⟨vc, g1, c1, lc, k1⟩ := hI
    refine m_E.run 2 (pc1 := 4) (ls1 := [some _, some _, some _, some _, _, _]) (st1 := [_, _]) rfl ?_
    refine m_E.ict ((m_leI (by omega) (by omega)).trans (decide_eq_true (Nat.le_refl _))) rfl ?_
    exact m_E.vret rfl ⟨rfl, vc, g1, c1, lc, k1⟩
/-- the shuffle card by card: where it stands in either part, and whether the first part's card comes -/
def y_one (top N k : Nat) : Nat := if k < 2 * min top (N - top) then (k + 1) / 2 else if min top (N - top) < top then k - (N - top) else top
def y_oth (top N k : Nat) : Nat := if k < 2 * min top (N - top) then top + k / 2 else if min top (N - top) < top then N else k
def y_fst (top N k : Nat) : Bool := if k < 2 * min top (N - top) then decide (k % 2 = 0) else decide (min top (N - top) < top)
theorem y_fst_ok {top N k : Nat} (h0 : 0 < top) (h1 : top < N) (hk : k < N) : (y_fst top N k = true → (y_oth top N k = N ∨ (y_one top N k < top ∧ y_one top N k ≤ y_oth top N k - top)) ∧ y_one top N (k + 1) = y_one top N k + 1 ∧ y_oth top N (k + 1) = y_oth top N k ∧ g_before k top N = y_one top N k) ∧ (y_fst top N k = false → ¬ y_oth top N k = N ∧ ¬ (y_one top N k < top ∧ y_one top N k ≤ y_oth top N k - top) ∧ y_one top N (k + 1) = y_one top N k ∧ y_oth top N (k + 1) = y_oth top N k + 1 ∧ g_before k top N = y_oth top N k) ∧ top ≤ y_oth top N k ∧ y_oth top N k ≤ N ∧ y_one top N k ≤ N := by
  have hm : min top (N - top) ≤ top := Nat.min_le_left _ _
  have hm2 : min top (N - top) ≤ N - top := Nat.min_le_right _ _
  have hm3 : min top (N - top) = top ∨ min top (N - top) = N - top := by omega
  generalize em : min top (N - top) = m at *
  unfold y_fst y_oth y_one g_before
  rw [em]
  by_cases c1 : k < 2 * m
  · rw [if_pos c1, if_pos c1, if_pos c1, if_pos c1]
    by_cases c2 : k % 2 = 0
    · rw [decide_eq_true c2, if_pos c2]
      refine ⟨fun _ => ⟨Or.inr (by omega), ?_, ?_, by omega⟩, (fun z => by cases z), by omega, by omega, by omega⟩
      · split <;> (try split) <;> omega
      · split <;> (try split) <;> omega
    · rw [decide_eq_false c2, if_neg c2]
      refine ⟨(fun z => by cases z), fun _ => ⟨by omega, by omega, ?_, ?_, by omega⟩, by omega, by omega, by omega⟩
      · split <;> (try split) <;> omega
      · split <;> (try split) <;> omega
  · rw [if_neg c1, if_neg c1, if_neg c1, if_neg c1, if_neg (show ¬ k + 1 < 2 * m by omega), if_neg (show ¬ k + 1 < 2 * m by omega)]
    by_cases c2 : m < top
    · rw [if_pos c2, if_pos c2, if_pos c2, if_pos c2, if_pos c2, decide_eq_true c2]
      exact ⟨fun _ => ⟨Or.inl rfl, by omega, rfl, by omega⟩, (fun z => by cases z), by omega, by omega, by omega⟩
    · rw [if_neg c2, if_neg c2, if_neg c2, if_neg c2, if_neg c2, decide_eq_false c2]
      exact ⟨(fun z => by cases z), fun _ => ⟨by omega, by omega, rfl, rfl, rfl⟩, by omega, by omega, by omega⟩
theorem y_one_0 {top N : Nat} (h0 : 0 < top) (h1 : top < N) : y_one top N 0 = 0 ∧ y_oth top N 0 = top := by
  unfold y_one y_oth
  rw [if_pos (by omega), if_pos (by omega)]
  omega
theorem y_shuffles {d : Nat} {top N : Nat} {x : Int32} {R : y_R} {h : m_Hp} (H : Hrw h R) (ok : Okr R) (hl : 69 ≤ h.length) (hx : x = nI top) (hq : (y_q R).getD 7 0 = nI N) (h0 : 0 < top) (h1 : top < N) (h24 : N ≤ 24) (inj : ∀ a b, a < N → b < N → (y_c R).getD a 0 = (y_c R).getD b 0 → a = b) : ∃ r h', m_Call m_P (d + 1) 81 [.int x, .ref 61, .ref 66] (h) r h' ∧ ((fun r h3 => r = some (.int (nI (g_cnt (fun j => !(g_before j top N == j)) N))) ∧ ∃ vc, Hrw h3 (y_sc R vc) ∧ Lfr h h3 ∧ h3.length = h.length + 1 ∧ (∃ vw, h3[h.length]? = some (.inl (0, vw)) ∧ vw.length = 24) ∧ vc.length = 24 ∧ ∀ j, j < N → vc.getD j 0 = (y_c R).getD (g_before j top N) 0)) r h' := by
  refine m_call_ex (tab := tL_shuffles) (nL := 8) rfl rfl ?_
  subst hx
  refine m_E.run 1 (pc1 := 2) (ls1 := [some _, some _, some _, none, none, none, none, none]) (st1 := [_]) rfl ?_
  refine m_E.nar rfl (by decide) rfl (fun h4 u4 => ?_)
  have H4 : Hrw h4 R := H.off (fun k a b => u4.2.2 k (by omega))
  refine m_E.run 7 (pc1 := 14) (ls1 := [some _, some _, some _, some _, some _, some _, some _, none]) (st1 := []) rfl ?_
  rw [show (m_E (m_Call m_P d) tL_shuffles 14 [some (.int (nI top)), some (.ref 61), some (.ref 66), some (.ref h.length), some (.int (nI 0)), some (.int (nI top)), some (.int (nI 0)), none] [] h4 (fun r h3 => r = some (.int (nI (g_cnt (fun j => !(g_before j top N == j)) N))) ∧ ∃ vc, Hrw h3 (y_sc R vc) ∧ Lfr h h3 ∧ h3.length = h.length + 1 ∧ (∃ vw, h3[h.length]? = some (.inl (0, vw)) ∧ vw.length = 24) ∧ vc.length = 24 ∧ ∀ j, j < N → vc.getD j 0 = (y_c R).getD (g_before j top N) 0)) = m_E (m_Call m_P d) tL_shuffles 14 [some (.int (nI top)), some (.ref 61), some (.ref 66), some (.ref h.length), some (.int (nI (y_one top N 0))), some (.int (nI (y_oth top N 0))), some (.int (nI 0)), none] [] h4 (fun r h3 => r = some (.int (nI (g_cnt (fun j => !(g_before j top N == j)) N))) ∧ ∃ vc, Hrw h3 (y_sc R vc) ∧ Lfr h h3 ∧ h3.length = h.length + 1 ∧ (∃ vw, h3[h.length]? = some (.inl (0, vw)) ∧ vw.length = 24) ∧ vc.length = 24 ∧ ∀ j, j < N → vc.getD j 0 = (y_c R).getD (g_before j top N) 0) from by rw [(y_one_0 h0 h1).1, (y_one_0 h0 h1).2]]
  refine m_E.lp (fun i ls hh => ∃ v7, ls = [some (.int (nI top)), some (.ref 61), some (.ref 66), some (.ref h.length), some (.int (nI (y_one top N i))), some (.int (nI (y_oth top N i))), some (.int (nI i)), v7] ∧ (Hrw hh R ∧ hh.length = h.length + 1 ∧ (∀ j, j < h.length → hh[j]? = h[j]?) ∧ ∃ vw, hh[h.length]? = some (.inl (0, vw)) ∧ vw.length = 24 ∧ ∀ j, j < i → vw.getD j 0 = (y_c R).getD (g_before j top N) 0)) N ?_ ?_ ?_
  · skip
    rintro i _ hh hi ⟨v7, rfl, hI⟩ K
    obtain ⟨g1, l1, f1, vw, w1, w2, w3⟩ := hI
    have hi : i < N := by assumption
    obtain ⟨a1, a2, a3, a4, a5⟩ := y_fst_ok h0 h1 hi
    have lb := g_before_lt (Nat.le_of_lt h1) hi
    have tail : ∀ b, y_fst top N i = b → m_E (m_Call m_P d) tL_shuffles 52 [some (.int (nI top)), some (.ref 61), some (.ref 66), some (.ref h.length), some (.int (nI (y_one top N i))), some (.int (nI (y_oth top N i))), some (.int (nI i)), v7] [.int (m_bI b)] hh (fun r h3 => r = some (.int (nI (g_cnt (fun j => !(g_before j top N == j)) N))) ∧ ∃ vc, Hrw h3 (y_sc R vc) ∧ Lfr h h3 ∧ h3.length = h.length + 1 ∧ (∃ vw, h3[h.length]? = some (.inl (0, vw)) ∧ vw.length = 24) ∧ vc.length = 24 ∧ ∀ j, j < N → vc.getD j 0 = (y_c R).getD (g_before j top N) 0) := by
      intro b hb
      cases b
      · skip
        obtain ⟨b1, b2, b3, b4, b5⟩ := a2 hb
        refine m_E.run 4 (pc1 := 59) (ls1 := [some _, some _, some _, some _, some _, some _, some _, some _]) (st1 := [_, _, _]) rfl ?_
        refine m_E.ift (rfl) rfl ?_
        refine m_E.run 2 (pc1 := 72) (ls1 := [some _, some _, some _, some _, some _, some _, some _, some _]) (st1 := [_, _, _, _]) rfl ?_
        refine m_E.yr g1.2.2.2.2.2.1 ok.2.2.2.2.2.1 rfl (by omega) (by decide) ((rfl : (y_c R).getD (y_oth top N i) 0 = (y_c R).getD (y_oth top N i) 0)) rfl ?_
        refine m_E.ig w1 (by omega) rfl (by omega) (by omega) rfl (fun h5 u5 => ?_)
        refine m_E.run 2 (pc1 := 78) (ls1 := [some _, some _, some _, some _, some _, some _, some _, some _]) (st1 := [_, _]) rfl ?_
        refine m_E.ift (rfl) rfl ?_
        refine m_E.run 5 (pc1 := 93) (ls1 := [some _, some _, some _, some _, some _, some _, some _, some _]) (st1 := [_, _]) rfl ?_
        dsimp only
        refine m_E.ift (rfl) rfl ?_
        refine m_E.run 5 (pc1 := 14) (ls1 := [some _, some _, some _, some _, some _, some _, some _, some _]) (st1 := []) rfl ?_
        dsimp only
        rw [nI_add, nI_add, nI_add, Nat.add_zero (y_one top N i)]
        refine K _ _ ⟨_, by rw [b3, b4], g1.off (fun k a b => u5.2.2 k (by omega)), u5.1.trans l1, fun j hj => (u5.2.2 j (by omega)).trans (f1 j hj), _, u5.2.1, (List.length_set ..).trans w2, fun j hj => ?_⟩
        by_cases e : j = i
        · rw [e, y_at w2 (by omega), b5]
        · rw [y_off (Ne.symm e)]; exact w3 j (by omega)
      · skip
        obtain ⟨b1, b3, b4, b5⟩ := a1 hb
        refine m_E.run 4 (pc1 := 59) (ls1 := [some _, some _, some _, some _, some _, some _, some _, some _]) (st1 := [_, _, _]) rfl ?_
        refine m_E.iff (rfl) rfl ?_
        refine m_E.run 2 (pc1 := 65) (ls1 := [some _, some _, some _, some _, some _, some _, some _, some _]) (st1 := [_, _, _, _]) rfl ?_
        refine m_E.yr g1.2.2.2.2.2.1 ok.2.2.2.2.2.1 rfl (by omega) (by decide) ((rfl : (y_c R).getD (y_one top N i) 0 = (y_c R).getD (y_one top N i) 0)) rfl ?_
        refine m_E.run 1 (pc1 := 73) (ls1 := [some _, some _, some _, some _, some _, some _, some _, some _]) (st1 := [_, _, _]) rfl ?_
        refine m_E.ig w1 (by omega) rfl (by omega) (by omega) rfl (fun h5 u5 => ?_)
        refine m_E.run 2 (pc1 := 78) (ls1 := [some _, some _, some _, some _, some _, some _, some _, some _]) (st1 := [_, _]) rfl ?_
        refine m_E.iff (rfl) rfl ?_
        refine m_E.run 6 (pc1 := 93) (ls1 := [some _, some _, some _, some _, some _, some _, some _, some _]) (st1 := [_, _]) rfl ?_
        dsimp only
        refine m_E.iff (rfl) rfl ?_
        refine m_E.run 6 (pc1 := 14) (ls1 := [some _, some _, some _, some _, some _, some _, some _, some _]) (st1 := []) rfl ?_
        dsimp only
        rw [nI_add, nI_add, nI_add, Nat.add_zero (y_oth top N i)]
        refine K _ _ ⟨_, by rw [b3, b4], g1.off (fun k a b => u5.2.2 k (by omega)), u5.1.trans l1, fun j hj => (u5.2.2 j (by omega)).trans (f1 j hj), _, u5.2.1, (List.length_set ..).trans w2, fun j hj => ?_⟩
        by_cases e : j = i
        · rw [e, y_at w2 (by omega), b5]
        · rw [y_off (Ne.symm e)]; exact w3 j (by omega)
    refine m_E.run 3 (pc1 := 19) (ls1 := [some _, some _, some _, some _, some _, some _, some _, _]) (st1 := [_, _, _]) rfl ?_
    refine m_E.yr g1.1 ok.1 rfl (by omega) (by decide) (hq) rfl ?_
    refine m_E.icf ((m_leI (by omega) (by omega)).trans (decide_eq_false (by omega))) rfl ?_
    refine m_E.run 3 (pc1 := 28) (ls1 := [some _, some _, some _, some _, some _, some _, some _, _]) (st1 := [_, _, _]) rfl ?_
    refine m_E.yr g1.1 ok.1 rfl (by omega) (by decide) (hq) rfl ?_
    cases ef : y_fst top N i
    · skip
      obtain ⟨b1, b2, b3, b4, b5⟩ := a2 ef
      refine m_E.icf ((m_beqI (by omega) (by omega)).trans (decide_eq_false b1)) rfl ?_
      refine m_E.run 2 (pc1 := 35) (ls1 := [some _, some _, some _, some _, some _, some _, some _, _]) (st1 := [_, _]) rfl ?_
      refine m_E.ic2 rfl (fun q1 => ?_) (fun q1 => ?_)
      · skip
        refine m_E.run 1 (pc1 := 52) (ls1 := [some _, some _, some _, some _, some _, some _, some _, _]) (st1 := [_]) rfl ?_
        exact tail false ef
      · skip
        have z1 := of_decide_eq_false ((m_leI (by omega) (by omega)).symm.trans q1)
        refine m_E.run 4 (pc1 := 44) (ls1 := [some _, some _, some _, some _, some _, some _, some _, _]) (st1 := [_, _]) rfl ?_
        dsimp only
        rw [pk_sub a3]
        refine m_E.ict ((m_ltI (by omega) (by omega)).trans (decide_eq_true (by omega))) rfl ?_
        refine m_E.run 1 (pc1 := 52) (ls1 := [some _, some _, some _, some _, some _, some _, some _, _]) (st1 := [_]) rfl ?_
        exact tail false ef
    · skip
      obtain ⟨b1, b3, b4, b5⟩ := a1 ef
      by_cases eN : y_oth top N i = N
      · skip
        refine m_E.ict ((m_beqI (by omega) (by omega)).trans (decide_eq_true eN)) rfl ?_
        refine m_E.run 2 (pc1 := 52) (ls1 := [some _, some _, some _, some _, some _, some _, some _, _]) (st1 := [_]) rfl ?_
        exact tail true ef
      · skip
        refine m_E.icf ((m_beqI (by omega) (by omega)).trans (decide_eq_false eN)) rfl ?_
        refine m_E.run 2 (pc1 := 35) (ls1 := [some _, some _, some _, some _, some _, some _, some _, _]) (st1 := [_, _]) rfl ?_
        refine m_E.icf ((m_leI (by omega) (by omega)).trans (decide_eq_false (by omega))) rfl ?_
        refine m_E.run 4 (pc1 := 44) (ls1 := [some _, some _, some _, some _, some _, some _, some _, _]) (st1 := [_, _]) rfl ?_
        dsimp only
        rw [pk_sub a3]
        refine m_E.icf ((m_ltI (by omega) (by omega)).trans (decide_eq_false (by omega))) rfl ?_
        refine m_E.run 2 (pc1 := 52) (ls1 := [some _, some _, some _, some _, some _, some _, some _, _]) (st1 := [_]) rfl ?_
        exact tail true ef
  · skip
    exact ⟨none, rfl, H4, u4.1, u4.2.2, _, u4.2.1, List.length_replicate, fun j hj => absurd hj (Nat.not_lt_zero j)⟩
  · skip
    rintro _ hh ⟨v7, rfl, hI⟩
    obtain ⟨g1, l1, f1, vw, w1, w2, w3⟩ := hI
    refine m_E.run 3 (pc1 := 19) (ls1 := [some _, some _, some _, some _, some _, some _, some _, _]) (st1 := [_, _, _]) rfl ?_
    refine m_E.yr g1.1 ok.1 rfl (by omega) (by decide) (hq) rfl ?_
    refine m_E.ict ((m_leI (by omega) (by omega)).trans (decide_eq_true (Nat.le_refl _))) rfl ?_
    refine m_E.run 4 (pc1 := 116) (ls1 := [some _, some _, some _, some _, some _, some _, some _, some _]) (st1 := []) rfl ?_
    refine m_E.lp (fun j ls hh => ls = [some (.int (nI top)), some (.ref 61), some (.ref 66), some (.ref h.length), some (.int (nI (y_one top N N))), some (.int (nI (y_oth top N N))), some (.int (nI (g_cnt (fun j => !(g_before j top N == j)) j))), some (.int (nI j))] ∧ (∃ vc, Hrw hh (y_sc R vc) ∧ Lfr h hh ∧ hh.length = h.length + 1 ∧ hh[h.length]? = some (.inl (0, vw)) ∧ vc.length = 24 ∧ (∀ q, q < j → vc.getD q 0 = vw.getD q 0) ∧ ∀ q, j ≤ q → vc.getD q 0 = (y_c R).getD q 0)) N ?_ ?_ ?_
    · skip
      rintro j _ hh hi ⟨rfl, hI⟩ K
      obtain ⟨vc, g2, f2, l2, x2, lc, k2, k3⟩ := hI
      have hj : j < N := by assumption
      have lb := g_before_lt (Nat.le_of_lt h1) hj
      have ok2 := ok.vc lc
      have tail : ∀ b, (!(g_before j top N == j)) = b → m_E (m_Call m_P d) tL_shuffles 143 [some (.int (nI top)), some (.ref 61), some (.ref 66), some (.ref h.length), some (.int (nI (y_one top N N))), some (.int (nI (y_oth top N N))), some (.int (nI (g_cnt (fun j => !(g_before j top N == j)) j))), some (.int (nI j))] [.int (m_bI b), .int (nI (g_cnt (fun j => !(g_before j top N == j)) j))] hh (fun r h3 => r = some (.int (nI (g_cnt (fun j => !(g_before j top N == j)) N))) ∧ ∃ vc, Hrw h3 (y_sc R vc) ∧ Lfr h h3 ∧ h3.length = h.length + 1 ∧ (∃ vw, h3[h.length]? = some (.inl (0, vw)) ∧ vw.length = 24) ∧ vc.length = 24 ∧ ∀ j, j < N → vc.getD j 0 = (y_c R).getD (g_before j top N) 0) := by
        intro b hb
        have eb : nI (g_cnt (fun j => !(g_before j top N == j)) j) + m_bI b = nI (g_cnt (fun j => !(g_before j top N == j)) (j + 1)) := by
          cases b
          · exact g_c0 (p := fun j => !(g_before j top N == j)) hb
          · exact g_c1 (p := fun j => !(g_before j top N == j)) hb
        refine m_E.run 6 (pc1 := 152) (ls1 := [some _, some _, some _, some _, some _, some _, some _, some _]) (st1 := [_, _, _, _]) rfl ?_
        dsimp only
        rw [eb]
        refine m_E.yr x2 w2 (j := j) rfl (by omega) (by decide) (rfl : vw.getD j 0 = vw.getD j 0) rfl ?_
        refine m_E.yc g2 ok2 rfl (by omega) rfl (fun h3 g3 c3 => ?_)
        refine m_E.run 2 (pc1 := 116) (ls1 := [some _, some _, some _, some _, some _, some _, some _, some _]) (st1 := []) rfl ?_
        rw [nI_add]
        refine K _ _ ⟨rfl, _, g3, ⟨by rw [c3.1]; exact f2.1, fun q a b => (c3.2 q b).trans (f2.2 q a b)⟩, c3.1.trans l2, (c3.2 _ (by omega)).trans x2, (List.length_set ..).trans lc, fun q hq2 => ?_, fun q hq2 => ?_⟩
        · show (vc.set j _).getD q 0 = _
          by_cases e : q = j
          · rw [e, y_at lc (by omega)]
          · rw [y_off (Ne.symm e)]; exact k2 q (by omega)
        · show (vc.set j _).getD q 0 = _
          rw [y_off (by omega)]; exact k3 q (by omega)
      refine m_E.run 3 (pc1 := 121) (ls1 := [some _, some _, some _, some _, some _, some _, some _, some _]) (st1 := [_, _, _]) rfl ?_
      refine m_E.yr g2.1 ok2.1 rfl (by omega) (by decide) (hq) rfl ?_
      refine m_E.icf ((m_leI (by omega) (by omega)).trans (decide_eq_false (by omega))) rfl ?_
      refine m_E.run 3 (pc1 := 130) (ls1 := [some _, some _, some _, some _, some _, some _, some _, some _]) (st1 := [_, _, _]) rfl ?_
      refine m_E.yr g2.2.2.2.2.2.1 ok2.2.2.2.2.2.1 rfl (by omega) (by decide) ((k3 j (Nat.le_refl _))) rfl ?_
      refine m_E.run 2 (pc1 := 134) (ls1 := [some _, some _, some _, some _, some _, some _, some _, some _]) (st1 := [_, _, _, _]) rfl ?_
      refine m_E.yr x2 w2 (j := j) rfl (by omega) (by decide) (w3 j hj) rfl ?_
      by_cases e : g_before j top N = j
      · skip
        refine m_E.icf (by rw [e]; simp) rfl ?_
        refine m_E.run 2 (pc1 := 143) (ls1 := [some _, some _, some _, some _, some _, some _, some _, some _]) (st1 := [_, _]) rfl ?_
        exact tail false (by rw [m_beqE e]; rfl)
      · skip
        refine m_E.ict (by rw [Bool.not_eq_true', beq_eq_false_iff_ne]; exact fun z => e (inj _ _ hj lb z).symm) rfl ?_
        refine m_E.run 1 (pc1 := 143) (ls1 := [some _, some _, some _, some _, some _, some _, some _, some _]) (st1 := [_, _]) rfl ?_
        exact tail true (by rw [m_beqN e]; rfl)
    · skip
      exact ⟨rfl, y_c R, g1, ⟨by omega, fun q a _ => f1 q a⟩, l1, w1, ok.2.2.2.2.2.1, fun q hq2 => absurd hq2 (Nat.not_lt_zero q), fun _ _ => rfl⟩
    · skip
      rintro _ hh ⟨rfl, hI⟩
      obtain ⟨vc, g2, f2, l2, x2, lc, k2, k3⟩ := hI
      have ok2 := ok.vc lc
      refine m_E.run 3 (pc1 := 121) (ls1 := [some _, some _, some _, some _, some _, some _, some _, some _]) (st1 := [_, _, _]) rfl ?_
      refine m_E.yr g2.1 ok2.1 rfl (by omega) (by decide) (hq) rfl ?_
      refine m_E.ict ((m_leI (by omega) (by omega)).trans (decide_eq_true (Nat.le_refl _))) rfl ?_
      refine m_E.run 1 (pc1 := 162) (ls1 := [some _, some _, some _, some _, some _, some _, some _, some _]) (st1 := [_]) rfl ?_
      exact m_E.iret rfl ⟨rfl, vc, g2, f2, l2, ⟨vw, x2, w2⟩, lc, fun q hq2 => (k2 q hq2).trans (w3 q hq2)⟩
