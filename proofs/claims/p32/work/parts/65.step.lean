/-! one call of the law's, whatever its kind -/
theorem Hcl.lfr {h h2 : m_Hp} {n : List Nat} {F : Nat → c_Sh} {W : c_W} (H : Hcl h n F W) (f : Lfr h h2) : Hcl h2 n F W := by
  obtain ⟨⟨a0, a1, a2⟩, a4, a5, a6, a7, a8, a9, a10⟩ := H
  have hl := a10.1
  have e : ∀ k, k < 61 → h2[k]? = h[k]? := fun k hk => f.2 k (by omega) (Or.inl hk)
  have c : Chg 61 69 h (h2.take h.length) := by
    have hf := f.1
    refine ⟨by rw [List.length_take]; omega, fun k hk => ?_⟩
    by_cases z : k < h.length
    · rw [List.getElem?_take, if_pos z]; exact f.2 k z hk
    · rw [List.getElem?_eq_none (by rw [List.length_take]; omega), List.getElem?_eq_none (by omega)]
  have sm : ∀ k, k < (h2.take h.length).length → h2[k]? = (h2.take h.length)[k]? := fun k hk => by
    rw [List.length_take] at hk
    rw [List.getElem?_take, if_pos (by omega)]
  refine ⟨⟨(e _ (by omega)).trans a0, (e _ (by omega)).trans a1, (e _ (by omega)).trans a2⟩, (e _ (by omega)).trans a4, (a5.off c (by omega)).same sm, (a6.off c (by omega)).same sm, (a7.off c (by omega)).same sm, (a8.off c (by omega)).same sm, ?_, by have := f.1; omega, fun k hk => ?_⟩
  · obtain ⟨zs, z1, z2⟩ := a9
    exact ⟨zs, (e _ (by omega)).trans z1, z2⟩
  · obtain ⟨q1, q2, q3, q4⟩ := a10.2 k hk
    exact ⟨q1, by have := f.1; omega, q3.same (fun j hj => f.2 _ (by omega) (Or.inr (by omega))), q4⟩
theorem Ry.eqF {n : List Nat} {p : Nat} {F F2 : Nat → c_Sh} {S : c_St} {R : y_R} (Y : Ry F S R) (t : Tok n p S) (e : ∀ k, k ∈ n → g_sh F2 k = g_sh F k) : Ry F2 S R := by
  have es := y_shf2 t e
  obtain ⟨ok, yq, yb, yp, yk⟩ := Y
  refine ⟨ok, yq, yb, fun j hj s hs => ?_, ⟨yk.1, fun hf => ?_⟩⟩
  · obtain ⟨i, hi, ei⟩ := t.2.2.1.2.1 j hj
    have e3 : i = s := Option.some.inj (ei.symm.trans hs)
    rw [e s (e3 ▸ hi)]
    exact yp j hj s hs
  · rw [es]
    exact yk.2 hf
/-- what a call of some kind tells, and the state that it makes (of print: but for the sheet) -/
def y_bk (kd a b e : Nat) (F : Nat → c_Sh) (S : c_St) : Int32 × Option c_St := match kd with
  | 0 => b_swap S (nI a) (nI b)
  | 1 => b_mark S (nI a) (nI b) (decide (e = 1))
  | 2 => b_lean S (nI a) (nI e - nI 9)
  | 3 => b_set S (nI a) (nI b)
  | 4 => if c_piled S < 6 then (nI (c_piled S + 1), some S) else (-3, none)
  | 5 => b_cut F S (nI a)
  | 6 => b_cutp S (nI a)
  | 7 => b_shuf S (nI a)
  | 8 => b_deal S (nI a)
  | 9 => b_sell F S
  | _ => b_pulp S
def y_rg (kd a b e : Nat) : Prop := kd ≤ 10 ∧ (kd < 3 → a < 24) ∧ (kd = 0 → b < 24) ∧ (kd = 1 → b < 4 ∧ e < 2) ∧ e < 19 ∧ (kd = 3 → a < 4 ∧ b_least a ≤ b ∧ b ≤ b_most a) ∧ (kd = 4 → a < 2) ∧ (kd = 5 → a < 4) ∧ (6 ≤ kd → 1 ≤ a ∧ a ≤ 24) ∧ a < 100 ∧ b < 100
def y_To (kd a b e : Nat) (F : Nat → c_Sh) (S : c_St) (F2 : Nat → c_Sh) (S2 : c_St) : Prop := if kd = 4 ∧ c_piled S < 6 then ∃ kk, g_sh F2 kk = g_sheet S (decide (a = 1)) ∧ S2 = g_printed S kk else F2 = F ∧ S2 = y_st S (y_bk kd a b e F S).2
theorem y_res_now (W : c_W) (o : Option c_St) : w_now (w_res W o) = y_st (w_now W) o := by cases o <;> rfl
/-- what stands after a call -/
def y_Aft (kd a b e : Nat) (n : List Nat) (p : Nat) (F : Nat → c_Sh) (W : c_W) (h h2 : m_Hp) : Prop := ∃ n2 F2 W2, Hcl h2 n2 F2 W2 ∧ Okw n2 (p + 1) W2 ∧ Frm h h2 ∧ h2.length ≤ h.length + 4 ∧ (∀ k, h.length ≤ k → g_bd h2 k) ∧ (∀ k, k ∈ n → k ∈ n2) ∧ (∀ k, k ∈ n → g_sh F2 k = g_sh F k) ∧ y_To kd a b e F (w_now W) F2 (w_now W2) ∧ (Gln n F → Lnk (c_leans (w_now W)) → Gln n2 F2) ∧ ((y_bk kd a b e F (w_now W)).2 = none → W2 = W ∧ F2 = F ∧ n2 = n) ∧ ((y_bk kd a b e F (w_now W)).2 ≠ none → W2 = w_S (w_rec W) (w_now W2))
theorem y_of_opq {kd a b e : Nat} {n : List Nat} {p : Nat} {F : Nat → c_Sh} {W : c_W} {h : m_Hp} {v : Int32} {o : Option c_St} (hk : ¬ (kd = 4 ∧ c_piled (w_now W) < 6)) (eb : y_bk kd a b e F (w_now W) = (v, o)) (q : ∃ r h2, m_Call m_P 8 87 [.ref 4, .int (nI kd), .int (nI a), .int (nI b), .int (nI e)] h r h2 ∧ Opq n p F W h v o r h2) : ∃ h2, m_Call m_P 8 87 [.ref 4, .int (nI kd), .int (nI a), .int (nI b), .int (nI e)] h (some (.int (y_bk kd a b e F (w_now W)).1)) h2 ∧ y_Aft kd a b e n p F W h h2 := by
  obtain ⟨_, h2, p2, rfl, H2, ok2, f2, l2⟩ := q
  refine ⟨h2, by rw [eb]; exact p2, n, F, w_res W o, H2, ok2.up (fun _ z => z) (Nat.le_succ _), f2, by omega, fun k hk2 x hx => ?_, fun _ z => z, fun _ _ => rfl, ?_, fun z _ => z, fun z => ?_, fun z => ?_⟩
  · rw [List.getElem?_eq_none (by omega)] at hx; cases hx
  · rw [y_To, if_neg hk, eb]
    exact ⟨rfl, y_res_now W o⟩
  · rw [eb] at z
    have z2 : o = none := z
    rw [z2]
    exact ⟨rfl, rfl, rfl⟩
  · rw [eb] at z
    cases o with
    | none => exact absurd rfl z
    | some S => rfl
theorem Hsh.bd {h : m_Hp} {k : Nat} {s : c_Sh} (hs : Hsh h k s) (j : Nat) (h1 : k ≤ j) (h2 : j < k + 4) : g_bd h j := by
  obtain ⟨g0, g1, g2, g3, g4, l1, l2, l3⟩ := hs
  intro c hc
  have e : j = k ∨ j = k + 1 ∨ j = k + 2 ∨ j = k + 3 := by omega
  rcases e with e | e | e | e <;> rw [e] at hc
  · rw [g1] at hc; rw [← Option.some.inj hc]; show 3 ≤ 60; decide
  · rw [g2] at hc; rw [← Option.some.inj hc]; show (s.1.map nI).length ≤ 60; rw [List.length_map]; omega
  · rw [g3] at hc; rw [← Option.some.inj hc]; show (s.2.1.map nI).length ≤ 60; rw [List.length_map]; omega
  · rw [g4] at hc; rw [← Option.some.inj hc]; show s.2.2.length ≤ 60; omega
theorem y_e01 {e : Nat} (h : e < 2) : nI e = m_bI (decide (e = 1)) := by
  have z : e = 0 ∨ e = 1 := by omega
  rcases z with rfl | rfl <;> rfl
theorem y_call_ok {kd a b e : Nat} {n : List Nat} {p : Nat} {F : Nat → c_Sh} {W : c_W} {h : m_Hp} (H : Hcl h n F W) (ok : Okw n p W) (rg : y_rg kd a b e) (hp : p + 1 < 2 ^ 30) : ∃ h2, m_Call m_P 8 87 [.ref 4, .int (nI kd), .int (nI a), .int (nI b), .int (nI e)] h (some (.int (y_bk kd a b e F (w_now W)).1)) h2 ∧ y_Aft kd a b e n p F W h h2 := by
  obtain ⟨r0, r1, r2, r3, r4, r5, r6, r7, r8, r9, r10⟩ := rg
  match kd, r0 with
  | 0, _ => exact y_of_opq (fun z => by omega) rfl (y_call0 (d := 0) H ok)
  | 1, _ => exact y_of_opq (fun z => by omega) rfl (y_call1 (d := 0) H ok (y_e01 (r3 rfl).2))
  | 2, _ => exact y_of_opq (fun z => by omega) rfl (y_call2 (d := 0) H ok)
  | 3, _ => exact y_of_opq (fun z => by omega) rfl (y_call3 (d := 0) H ok)
  | 4, _ =>
    by_cases hf : c_piled (w_now W) < 6
    · obtain ⟨_, h2, p2, rfl, H2, ok2, f2, l2⟩ := y_call4 (d := 0) (b := nI b) (e := nI e) H ok hf hp (y_e01 (r6 rfl))
      have eb : y_bk 4 a b e F (w_now W) = (nI (c_piled (w_now W) + 1), some (w_now W)) := if_pos hf
      have ag : ∀ k, k ∈ n → g_sh (g_upd F h.length (g_sheet (w_now W) (decide (a = 1)))) k = g_sh F k := fun k hk => by
        have := (H.shp.2 k hk).2.1
        exact g_upd_off _ _ (by omega)
      refine ⟨h2, by rw [eb]; exact p2, _, _, _, H2, ok2, f2, by omega, fun k hk => ?_, fun k hk => List.mem_cons_of_mem _ hk, ag, ?_, fun GL L k hk => ?_, fun z => ?_, fun _ => rfl⟩
      · by_cases z : k < h.length + 4
        · exact (H2.shp.2 _ List.mem_cons_self).2.2.1.bd k hk z
        · intro c hc; rw [List.getElem?_eq_none (by omega)] at hc; cases hc
      · rw [y_To, if_pos ⟨rfl, hf⟩]
        exact ⟨h.length, g_upd_at _ _ _, rfl⟩
      · rcases List.mem_cons.mp hk with z | z
        · rw [z, show g_sh (g_upd F h.length (g_sheet (w_now W) (decide (a = 1)))) h.length = g_sheet (w_now W) (decide (a = 1)) from g_upd_at _ _ _]
          exact L
        · rw [ag k z]; exact GL k z
      · rw [eb] at z; cases z
    · exact y_of_opq (fun z => hf z.2) (if_neg hf) (y_call4f (d := 0) H ok hf (y_e01 (r6 rfl)))
  | 5, _ => exact y_of_opq (fun z => by omega) rfl (y_call5 (d := 0) H ok)
  | 6, _ => exact y_of_opq (fun z => by omega) rfl (y_call6 (d := 0) H ok)
  | 7, _ => exact y_of_opq (fun z => by omega) rfl (y_call7 (d := 0) H ok)
  | 8, _ => exact y_of_opq (fun z => by omega) rfl (y_call8 (d := 0) H ok)
  | 9, _ => exact y_of_opq (fun z => by omega) rfl (y_call9 (d := 0) H ok)
  | 10, _ => exact y_of_opq (fun z => by omega) rfl (y_call10 (d := 0) H ok)
  | k + 11, hk => omega
/-- a call tells less than 0 just if it was refused -/
theorem y_ng : ∀ r, r < 4 → (-10 - nI r < 0) := by decide +kernel
theorem y_l91 : ∀ v, v < 19 → ¬ (nI v - nI 9 + nI 100 < 0) := by decide +kernel
theorem y_sign {kd a b e : Nat} {n : List Nat} {p : Nat} {F : Nat → c_Sh} {S : c_St} (t : Tok n p S) (L : Lnk (c_leans S)) (rg : y_rg kd a b e) : ((y_bk kd a b e F S).2 = none ∧ (y_bk kd a b e F S).1 < 0) ∨ ((y_bk kd a b e F S).2 ≠ none ∧ ¬ (y_bk kd a b e F S).1 < 0) := by
  obtain ⟨r0, r1, r2, r3, r4, r5, r6, r7, r8, r9, r10⟩ := rg
  have n4 : (-4 : Int32) < 0 := by decide
  have n5 : (-5 : Int32) < 0 := by decide
  have n2 : (-2 : Int32) < 0 := by decide
  have n3 : (-3 : Int32) < 0 := by decide
  have ll : c_lf S ≤ 24 := g_left_le _ _
  have lp := t.1.2.2.2.2.2.2.2.2.2.2.2.1
  match kd, r0 with
  | 0, _ =>
    show ((b_swap S (nI a) (nI b)).2 = none ∧ _) ∨ _
    rw [show y_bk 0 a b e F S = b_swap S (nI a) (nI b) from rfl, y_bswap (r1 (by decide)) (r2 rfl)]
    have l := t.crd b (r2 rfl)
    split
    · exact Or.inl ⟨rfl, n5⟩
    · exact Or.inr ⟨(fun z => by cases z), m_cbl (by omega)⟩
  | 1, _ =>
    rw [show y_bk 1 a b e F S = b_mark S (nI a) (nI b) (decide (e = 1)) from rfl, y_bmark (r1 (by decide)) (r3 rfl).1]
    have l := g_mset_lt (t.bck a (r1 (by decide))) (r3 rfl).1 (decide (e = 1))
    split
    · exact Or.inl ⟨rfl, n5⟩
    · exact Or.inr ⟨(fun z => by cases z), m_cbl (by omega)⟩
  | 2, _ =>
    rw [show y_bk 2 a b e F S = b_lean S (nI a) (nI e - nI 9) from rfl, y_blean (r1 (by decide)) r4]
    obtain ⟨v, v1, v2⟩ := L.2.1 a (r1 (by decide))
    split
    · split
      · exact Or.inl ⟨rfl, n5⟩
      · exact Or.inr ⟨(fun z => by cases z), by show ¬ ((c_leans S).getD a 0 + nI 100 < 0); rw [v2]; exact y_l91 v v1⟩
    · exact Or.inl ⟨rfl, n4⟩
  | 3, _ =>
    have l := t.set_lt (r5 rfl).1
    rw [show y_bk 3 a b e F S = b_set S (nI a) (nI b) from rfl, y_bset (r5 rfl).1 (r5 rfl).2.1 (r5 rfl).2.2 l]
    split
    · exact Or.inl ⟨rfl, n5⟩
    · exact Or.inr ⟨(fun z => by cases z), m_cbl (by omega)⟩
  | 4, _ =>
    rw [show y_bk 4 a b e F S = if c_piled S < 6 then (nI (c_piled S + 1), some S) else (-3, none) from rfl]
    split
    · exact Or.inr ⟨(fun z => by cases z), m_cbl (by omega)⟩
    · exact Or.inl ⟨rfl, n3⟩
  | 5, _ =>
    rw [show y_bk 5 a b e F S = b_cut F S (nI a) from rfl, y_bcut (r7 rfl)]
    split
    · cases c_top S with
      | none => exact Or.inl ⟨rfl, n4⟩
      | some k => exact Or.inr ⟨(fun z => by cases z), m_cbl (show c_piled S - 1 < 2 ^ 31 by omega)⟩
    · exact Or.inl ⟨rfl, n4⟩
  | 6, _ =>
    rw [show y_bk 6 a b e F S = b_cutp S (nI a) from rfl, y_bcutp (r8 (by decide)).1 r9]
    by_cases hf : c_fr S = none
    · rw [if_pos hf]; exact Or.inl ⟨rfl, n4⟩
    · rw [if_neg hf]
      by_cases c : c_lf S ≤ a
      · rw [if_pos c]; exact Or.inl ⟨rfl, n2⟩
      · rw [if_neg c]
        have lf := c_lf_eq t hf
        have lo := t.ord (c_dealt S + g_cutf a (c_lf S) 0) (by rw [g_cutf]; split <;> omega)
        refine Or.inr ⟨(fun z => by cases z), ?_⟩
        show ¬ (nI ((c_order (c_prt S (g_cutf a (c_lf S)))).getD (c_dealt S) 0) < 0)
        have q := y_prt_get (f := g_cutf a (c_lf S)) t hf (show 0 < c_lf S by omega)
        rw [Nat.add_zero] at q
        rw [q]
        exact m_cbl (by omega)
  | 7, _ =>
    rw [show y_bk 7 a b e F S = b_shuf S (nI a) from rfl, y_bshuf (r8 (by decide)).1 r9]
    by_cases hf : c_fr S = none
    · rw [if_pos hf]; exact Or.inl ⟨rfl, n4⟩
    · rw [if_neg hf]
      by_cases c : c_lf S ≤ a
      · rw [if_pos c]; exact Or.inl ⟨rfl, n2⟩
      · rw [if_neg c]
        have := g_cnt_le (fun j => !(g_before j a (c_lf S) == j)) (c_lf S)
        exact Or.inr ⟨(fun z => by cases z), m_cbl (by omega)⟩
  | 8, _ =>
    rw [show y_bk 8 a b e F S = b_deal S (nI a) from rfl, y_bdeal (r8 (by decide)).1 r9]
    by_cases hf : c_fr S = none
    · rw [if_pos hf]; exact Or.inl ⟨rfl, n4⟩
    · rw [if_neg hf]
      by_cases c : a ≤ c_lf S
      · rw [if_pos c]; exact Or.inr ⟨(fun z => by cases z), m_cbl (show c_lf S - a < 2 ^ 31 by omega)⟩
      · rw [if_neg c]; exact Or.inl ⟨rfl, n2⟩
  | 9, _ =>
    rw [show y_bk 9 a b e F S = b_sell F S from rfl, b_sell]
    cases c_fr S with
    | none => exact Or.inl ⟨rfl, n4⟩
    | some k =>
      dsimp only
      have l3 := t.set_lt (k := 3) (by decide)
      have lr := g_reason_lt S (g_sh F k)
      split
      · exact Or.inr ⟨(fun z => by cases z), m_cbl (by omega)⟩
      · exact Or.inl ⟨rfl, y_ng _ lr⟩
  | 10, _ =>
    rw [show y_bk 10 a b e F S = b_pulp S from rfl, b_pulp]
    by_cases hf : c_fr S = none
    · rw [if_pos hf]; exact Or.inl ⟨rfl, n4⟩
    · rw [if_neg hf]; exact Or.inr ⟨(fun z => by cases z), m_cbl (by omega)⟩
  | k + 11, hk => omega
/-- what it tells doesn't speak of sheets that are nowhere in the state -/
theorem y_bkF {kd a b e : Nat} {n : List Nat} {p : Nat} {F F2 : Nat → c_Sh} {S : c_St} (t : Tok n p S) (ag : ∀ k, k ∈ n → g_sh F2 k = g_sh F k) (rg : y_rg kd a b e) : (y_bk kd a b e F2 S).1 = (y_bk kd a b e F S).1 := by
  obtain ⟨r0, r1, r2, r3, r4, r5, r6, r7, r8, r9, r10⟩ := rg
  match kd, r0 with
  | 0, _ => rw [show y_bk 0 a b e F2 S = b_swap S (nI a) (nI b) from rfl, show y_bk 0 a b e F S = b_swap S (nI a) (nI b) from rfl]
  | 1, _ => rw [show y_bk 1 a b e F2 S = b_mark S (nI a) (nI b) (decide (e = 1)) from rfl, show y_bk 1 a b e F S = b_mark S (nI a) (nI b) (decide (e = 1)) from rfl]
  | 2, _ => rw [show y_bk 2 a b e F2 S = b_lean S (nI a) (nI e - nI 9) from rfl, show y_bk 2 a b e F S = b_lean S (nI a) (nI e - nI 9) from rfl]
  | 3, _ => rw [show y_bk 3 a b e F2 S = b_set S (nI a) (nI b) from rfl, show y_bk 3 a b e F S = b_set S (nI a) (nI b) from rfl]
  | 4, _ => rw [show y_bk 4 a b e F2 S = if c_piled S < 6 then (nI (c_piled S + 1), some S) else (-3, none) from rfl, show y_bk 4 a b e F S = if c_piled S < 6 then (nI (c_piled S + 1), some S) else (-3, none) from rfl]
  | 5, _ =>
    rw [show y_bk 5 a b e F2 S = b_cut F2 S (nI a) from rfl, show y_bk 5 a b e F S = b_cut F S (nI a) from rfl, y_bcut (r7 rfl), y_bcut (r7 rfl)]
    by_cases c : c_fr S = none ∧ 0 < c_piled S
    · rw [if_pos c, if_pos c]
      cases c_top S with
      | none => rfl
      | some k => rfl
    · rw [if_neg c, if_neg c]
  | 6, _ => rw [show y_bk 6 a b e F2 S = b_cutp S (nI a) from rfl, show y_bk 6 a b e F S = b_cutp S (nI a) from rfl]
  | 7, _ => rw [show y_bk 7 a b e F2 S = b_shuf S (nI a) from rfl, show y_bk 7 a b e F S = b_shuf S (nI a) from rfl]
  | 8, _ => rw [show y_bk 8 a b e F2 S = b_deal S (nI a) from rfl, show y_bk 8 a b e F S = b_deal S (nI a) from rfl]
  | 9, _ =>
    rw [show y_bk 9 a b e F2 S = b_sell F2 S from rfl, show y_bk 9 a b e F S = b_sell F S from rfl, b_sell, b_sell]
    cases ef : c_fr S with
    | none => rfl
    | some k => dsimp only; rw [ag k (t.2.2.1.2.2 k ef)]
  | 10, _ => rw [show y_bk 10 a b e F2 S = b_pulp S from rfl, show y_bk 10 a b e F S = b_pulp S from rfl]
  | k + 11, hk => omega
/-- leans stay those of courts, from -9 to 9 -/
theorem y_Lnk {kd a b e : Nat} {n : List Nat} {p : Nat} {F F2 : Nat → c_Sh} {S S2 : c_St} (t : Tok n p S) (L : Lnk (c_leans S)) (rg : y_rg kd a b e) (T : y_To kd a b e F S F2 S2) : Lnk (c_leans S2) := by
  obtain ⟨r0, r1, r2, r3, r4, r5, r6, r7, r8, r9, r10⟩ := rg
  rw [y_To] at T
  by_cases c4 : kd = 4 ∧ c_piled S < 6
  · rw [if_pos c4] at T
    obtain ⟨kk, _, rfl⟩ := T
    rw [show g_printed S kk = c_setBacks (g_prn S kk) (y_wb (g_prn S kk)) from g_wear_eq _]
    exact L
  rw [if_neg c4] at T
  rw [T.2]
  match kd, r0 with
  | 0, _ =>
    rw [show y_bk 0 a b e F S = b_swap S (nI a) (nI b) from rfl, y_bswap (r1 (by decide)) (r2 rfl)]
    split <;> exact L
  | 1, _ =>
    rw [show y_bk 1 a b e F S = b_mark S (nI a) (nI b) (decide (e = 1)) from rfl, y_bmark (r1 (by decide)) (r3 rfl).1]
    split <;> exact L
  | 2, _ =>
    rw [show y_bk 2 a b e F S = b_lean S (nI a) (nI e - nI 9) from rfl, y_blean (r1 (by decide)) r4]
    by_cases c : 3 ≤ a % 6
    · rw [if_pos c]
      split
      · exact L
      · refine ⟨(List.length_set ..).trans L.1, fun q hq => ?_, fun q hq hq3 => ?_⟩
        · show ∃ v, v < 19 ∧ ((c_leans S).set a (nI e - nI 9)).getD q 0 = _
          by_cases z : q = a
          · rw [z, y_at L.1 (r1 (by decide))]; exact ⟨e, r4, rfl⟩
          · rw [y_off (Ne.symm z)]; exact L.2.1 q hq
        · show ((c_leans S).set a (nI e - nI 9)).getD q 0 = 0
          rw [y_off (by omega)]; exact L.2.2 q hq hq3
    · rw [if_neg c]; exact L
  | 3, _ =>
    rw [show y_bk 3 a b e F S = b_set S (nI a) (nI b) from rfl, y_bset (r5 rfl).1 (r5 rfl).2.1 (r5 rfl).2.2 (t.set_lt (r5 rfl).1)]
    split <;> exact L
  | 4, _ =>
    rw [show y_bk 4 a b e F S = if c_piled S < 6 then (nI (c_piled S + 1), some S) else (-3, none) from rfl]
    split <;> exact L
  | 5, _ =>
    rw [show y_bk 5 a b e F S = b_cut F S (nI a) from rfl, y_bcut (r7 rfl)]
    split
    · cases c_top S <;> exact L
    · exact L
  | 6, _ =>
    rw [show y_bk 6 a b e F S = b_cutp S (nI a) from rfl, y_bcutp (r8 (by decide)).1 r9]
    split
    · exact L
    · split <;> exact L
  | 7, _ =>
    rw [show y_bk 7 a b e F S = b_shuf S (nI a) from rfl, y_bshuf (r8 (by decide)).1 r9]
    split
    · exact L
    · split <;> exact L
  | 8, _ =>
    rw [show y_bk 8 a b e F S = b_deal S (nI a) from rfl, y_bdeal (r8 (by decide)).1 r9]
    split
    · exact L
    · split <;> exact L
  | 9, _ =>
    rw [show y_bk 9 a b e F S = b_sell F S from rfl, b_sell]
    cases c_fr S with
    | none => exact L
    | some k =>
      dsimp only
      split <;> exact L
  | 10, _ =>
    rw [show y_bk 10 a b e F S = b_pulp S from rfl, b_pulp]
    split <;> exact L
  | k + 11, hk => omega
/-- what is undone is as it was -/
theorem y_undone {h : m_Hp} {n : List Nat} {F : Nat → c_Sh} {W : c_W} {S : c_St} (H : Hcl h n F W) : 0 < w_size (w_S (w_rec W) S) ∧ w_now (w_undo (w_S (w_rec W) S)) = w_now W := by
  have hn := H.hist.2.2.2.2.2.1
  refine ⟨by show 0 < min (w_size W + 1) 4; omega, ?_⟩
  show g_upd (w_ring W) (w_next W) (w_now W) (((w_next W + 1) % 4 + 3) % 4) = w_now W
  rw [show ((w_next W + 1) % 4 + 3) % 4 = w_next W by omega, g_upd_at]
