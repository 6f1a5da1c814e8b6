/-! what the law's rows become: the pack -/
section
variable {n : List Nat} {p : Nat} {F : Nat → c_Sh} {S : c_St} {R : y_R}
/-- a card is dealt just if it stands at a dealt place -/
theorem q_dl_iff (t : Tok n p S) (hf : c_fr S ≠ none) {c : Nat} (hc : c < 24) : q_dl S c = true ↔ ∃ k, k < c_dealt S ∧ (c_order S).getD k 0 = c := by
  have hp := t.2.2.2.2.1 hf
  have hd := t.1.2.2.2.2.2.2.2.2.2.2.1
  constructor
  · intro z
    exact ⟨_, of_decide_eq_true z, g_ix_of hp hc⟩
  · rintro ⟨k, hk, e⟩
    rw [← e, q_dl_at t hf (by omega)]
    exact decide_eq_true hk
theorem y_prt_get {f : Nat → Nat} (t : Tok n p S) (hf : c_fr S ≠ none) {j : Nat} (hj : j < c_lf S) : (c_order (c_prt S f)).getD (c_dealt S + j) 0 = (c_order S).getD (c_dealt S + f j) 0 := by
  have l := c_lf_eq t hf
  show (g_prt f (c_dealt S) (c_lf S) (c_order S)).getD (c_dealt S + j) 0 = _
  rw [List.getD_eq_getElem?_getD, g_prt_get (by omega), if_pos (by omega), Nat.add_sub_cancel_left]; rfl
theorem y_prt_low {f : Nat → Nat} (t : Tok n p S) (hf : c_fr S ≠ none) {k : Nat} (hk : k < c_dealt S) : (c_order (c_prt S f)).getD k 0 = (c_order S).getD k 0 := by
  have l := c_lf_eq t hf
  show (g_prt f (c_dealt S) (c_lf S) (c_order S)).getD k 0 = _
  rw [List.getD_eq_getElem?_getD, g_prt_get (by omega), if_neg (by omega)]; rfl
theorem Ry.prt {f : Nat → Nat} {vc : List Int32} (Y : Ry F S R) (t : Tok n p S) (hf : c_fr S ≠ none) (hs : ∀ a, a < c_lf S → ∃ q, q < c_lf S ∧ f q = a) (hl : ∀ j, j < c_lf S → f j < c_lf S) (lc : vc.length = 24) (hv : ∀ j, j < c_lf S → vc.getD j 0 = (y_c R).getD (f j) 0) : Ry F (c_prt S f) (y_sc R vc) := by
  have t2 : Tok n p (c_prt S f) := t.prt hf hs
  obtain ⟨⟨o1, o2, o3, o4, o5, o6, o7, o8⟩, yq, yb, yp, yk⟩ := Y
  refine ⟨⟨o1, o2, o3, o4, o5, lc, o7, o8⟩, yq, yb, yp, ⟨fun j hj => ?_, fun _ => ?_⟩⟩
  · have hj2 : j < c_lf S := hj
    show vc.getD j 0 = nI ((c_order (c_prt S f)).getD (c_dealt S + j) 0)
    rw [y_prt_get t hf hj2, hv j hj2]
    exact yk.1 _ (hl j hj2)
  · obtain ⟨g1, g2, D, d1, d2, d3⟩ := yk.2 hf
    refine ⟨g1, g2, D, d1, d2, fun c hc => ?_⟩
    rw [d3 c hc, Bool.eq_iff_iff, q_dl_iff t hf hc, q_dl_iff t2 hf hc]
    constructor
    · rintro ⟨k, hk, e⟩
      exact ⟨k, hk, (y_prt_low t hf hk).trans e⟩
    · rintro ⟨k, hk, e⟩
      exact ⟨k, hk, (y_prt_low t hf hk).symm.trans e⟩
theorem y_inj (Y : Ry F S R) (t : Tok n p S) (hf : c_fr S ≠ none) : ∀ a b, a < c_lf S → b < c_lf S → (y_c R).getD a 0 = (y_c R).getD b 0 → a = b := by
  intro a b ha hb e
  have l := c_lf_eq t hf
  have la := t.ord (c_dealt S + a) (by omega)
  have lb := t.ord (c_dealt S + b) (by omega)
  rw [Y.2.2.2.2.1 a ha, Y.2.2.2.2.1 b hb] at e
  have q := g_perm_inj (t.2.2.2.2.1 hf) t.ord (show c_dealt S + a < 24 by omega) (show c_dealt S + b < 24 by omega) (m_inj (by omega) (by omega) e)
  omega
theorem Ry.deal {a D2 : Nat} {vc q2 : List Int32} (Y : Ry F S R) (t : Tok n p S) (hf : c_fr S ≠ none) (ha : a ≤ c_lf S) (lc : vc.length = 24) (lq : q2.length = 12) (hv : ∀ j, j < c_lf S - a → vc.getD j 0 = (y_c R).getD (j + a) 0) (q7 : q2.getD 7 0 = nI (c_lf S - a)) (q11 : q2.getD 11 0 = nI D2) (qo : ∀ j, j ≠ 7 → j ≠ 11 → q2.getD j 0 = (y_q R).getD j 0) (lD : D2 < 2 ^ 24) (hD : ∀ c, c < 24 → D2.testBit c = (q_dl S c || decide (∃ k, k < a ∧ (c_order S).getD (c_dealt S + k) 0 = c))) : Ry F (c_setDealt S (c_dealt S + a)) (y_mk q2 (y_b R) (y_m R) (y_l R) (y_p R) vc (y_g R) (y_h R)) := by
  have l := c_lf_eq t hf
  have t2 : Tok n p (c_setDealt S (c_dealt S + a)) := t.dealt (by omega) hf
  have lf2 : c_lf (c_setDealt S (c_dealt S + a)) = c_lf S - a := by
    have := c_lf_eq t2 hf
    have e : c_dealt (c_setDealt S (c_dealt S + a)) = c_dealt S + a := rfl
    omega
  obtain ⟨⟨o1, o2, o3, o4, o5, o6, o7, o8⟩, yq, yb, yp, yk⟩ := Y
  refine ⟨⟨lq, o2, o3, o4, o5, lc, o7, o8⟩, ⟨fun k hk => (qo k (by omega) (by omega)).trans (yq.1 k hk), (qo 4 (by decide) (by decide)).trans yq.2.1, (qo 5 (by decide) (by decide)).trans yq.2.2.1, (qo 6 (by decide) (by decide)).trans yq.2.2.2.1, by rw [lf2]; exact q7, (qo 8 (by decide) (by decide)).trans yq.2.2.2.2.2.1, (qo 9 (by decide) (by decide)).trans yq.2.2.2.2.2.2.1, (qo 10 (by decide) (by decide)).trans yq.2.2.2.2.2.2.2⟩, yb, yp, ⟨fun j hj => ?_, fun _ => ?_⟩⟩
  · rw [lf2] at hj
    show vc.getD j 0 = nI ((c_order S).getD (c_dealt S + a + j) 0)
    rw [hv j hj, show c_dealt S + a + j = c_dealt S + (j + a) by omega]
    exact yk.1 _ (by omega)
  · obtain ⟨g1, g2, D, d1, d2, d3⟩ := yk.2 hf
    refine ⟨g1, g2, D2, lD, q11, fun c hc => ?_⟩
    rw [hD c hc, Bool.eq_iff_iff, Bool.or_eq_true, q_dl_iff t hf hc, q_dl_iff t2 hf hc, decide_eq_true_iff]
    constructor
    · rintro (⟨k, hk, e⟩ | ⟨k, hk, e⟩)
      · exact ⟨k, Nat.lt_of_lt_of_le hk (Nat.le_add_right _ _), e⟩
      · exact ⟨c_dealt S + k, Nat.add_lt_add_left hk _, e⟩
    · rintro ⟨k, hk, e⟩
      have hk2 : k < c_dealt S + a := hk
      by_cases z : k < c_dealt S
      · exact Or.inl ⟨k, z, e⟩
      · exact Or.inr ⟨k - c_dealt S, by omega, by rw [show c_dealt S + (k - c_dealt S) = k by omega]; exact e⟩
theorem Ry.away {T : c_St} {q2 : List Int32} {s u v : Int32} (Y : Ry F S R) (eT : T = c_away (c_setPulped (c_setSold (c_setCoins S v) s) u)) (lq : q2.length = 12) (q6 : q2.getD 6 0 = nI 0) (q7 : q2.getD 7 0 = nI 0) (q8 : q2.getD 8 0 = s) (q9 : q2.getD 9 0 = u) (q10 : q2.getD 10 0 = v) (qo : ∀ j, j < 6 → q2.getD j 0 = (y_q R).getD j 0) : Ry F T (y_sq R q2) := by
  have f1 : c_fr T = none := by rw [eT]; rfl
  have f2 : c_lf T = 0 := y_lf0 f1
  have a1 : c_settings T = c_settings S := by rw [eT]; rfl
  have a2 : c_printed T = c_printed S := by rw [eT]; rfl
  have a3 : c_piled T = c_piled S := by rw [eT]; rfl
  have a4 : c_sold T = s := by rw [eT]; rfl
  have a5 : c_pulped T = u := by rw [eT]; rfl
  have a6 : c_coins T = v := by rw [eT]; rfl
  have b1 : c_cards T = c_cards S := by rw [eT]; rfl
  have b2 : c_backs T = c_backs S := by rw [eT]; rfl
  have b3 : c_leans T = c_leans S := by rw [eT]; rfl
  have b4 : c_pile T = c_pile S := by rw [eT]; rfl
  obtain ⟨⟨o1, o2, o3, o4, o5, o6, o7, o8⟩, yq, yb, yp, yk⟩ := Y
  refine ⟨⟨lq, o2, o3, o4, o5, o6, o7, o8⟩, ⟨fun k hk => ?_, ?_, ?_, ?_, ?_, ?_, ?_, ?_⟩, ⟨fun k hk => ?_, fun k hk => ?_, fun j hj => ?_⟩, fun j hj s hs => ?_, ⟨fun j hj => ?_, fun hf => absurd f1 hf⟩⟩
  · rw [a1]; exact (qo k (by omega)).trans (yq.1 k hk)
  · rw [a2]; exact (qo 4 (by decide)).trans yq.2.1
  · rw [a3]; exact (qo 5 (by decide)).trans yq.2.2.1
  · rw [if_pos f1]; exact q6
  · rw [f2]; exact q7
  · rw [a4]; exact q8
  · rw [a5]; exact q9
  · rw [a6]; exact q10
  · rw [b1]; exact yb.1 k hk
  · rw [b2]; exact yb.2.1 k hk
  · rw [b3]; exact yb.2.2 j hj
  · rw [a3] at hj
    rw [b4] at hs
    exact yp j hj s hs
  · rw [f2] at hj
    exact absurd hj (Nat.not_lt_zero j)
end
theorem y_cutf {top N j : Nat} (h : top < N) (hj : j < N) : (j + top) % N = g_cutf top N j := by
  rw [g_cutf]
  by_cases c : j + top < N
  · rw [if_pos c, Nat.mod_eq_of_lt c]
  · rw [if_neg c, Nat.mod_eq_sub_mod (by omega), Nat.mod_eq_of_lt (by omega)]
theorem y_or1 : ∀ c, c < 24 → nI 1 <<< (nI c &&& 31) = nI (2 ^ c) := by decide +kernel
theorem y_has (S : c_St) : (if c_fr S = none then nI 0 else nI 1) = m_bI (decide (c_fr S ≠ none)) := by
  by_cases h : c_fr S = none
  · rw [if_pos h, decide_eq_false (fun z => z h)]; rfl
  · rw [if_neg h, decide_eq_true h]; rfl
/-- a cell of no more than 60 parts -/
def g_bd (h : m_Hp) (k : Nat) : Prop := ∀ c, h[k]? = some c → m_csz c ≤ 60
/-- what a method of the law's leaves that told a value beside a state that is, perhaps, a new one -/
def y_Op (F : Nat → c_Sh) (S : c_St) (h : m_Hp) (v : Int32) (o : Option c_St) : Option Value → m_Hp → Prop := fun r h2 => r = some (.int v) ∧ Lfr h h2 ∧ h2.length ≤ h.length + 1 ∧ (∀ k, h.length ≤ k → g_bd h2 k) ∧ ∃ R2, Hrw h2 R2 ∧ Ry F (y_st S o) R2
theorem y_Op.chg {F : Nat → c_Sh} {S : c_St} {h h2 : m_Hp} {v : Int32} {o : Option c_St} {R2 : y_R} (c : Chg 61 69 h h2) (g : Hrw h2 R2) (Y : Ry F (y_st S o) R2) : y_Op F S h v o (some (.int v)) h2 :=
  ⟨rfl, c.lfr, (by rw [c.1]; exact Nat.le_succ _), (fun k hk x hx => by rw [List.getElem?_eq_none (by rw [c.1]; exact hk)] at hx; cases hx), R2, g, Y⟩
theorem y_bcut {F : Nat → c_Sh} {S : c_St} {way : Nat} (hw : way < 4) : b_cut F S (nI way) = if c_fr S = none ∧ 0 < c_piled S then (match c_top S with
  | none => (-4, none)
  | some k => (nI (c_piled S - 1), some (c_laid F S k way))) else (-4, none) := by
  rw [b_cut, if_pos (g_in_yes hw (by decide)), m_cl (by omega)]
  rfl
theorem y_ofP5 {d : Nat} {n : List Nat} {p way : Nat} {F : Nat → c_Sh} {S : c_St} {R : y_R} {h : m_Hp} (H : Hrw h R) (Y : Ry F S R) (t : Tok n p S) (G : Gsh n F) (hw : way < 4) : ∃ r h', m_Call m_P (d + 4) 89 [.int (nI 5), .int (nI way), .ref 61, .ref 65, .ref 66, .ref 67, .ref 68] (h) r h' ∧ (y_Op F S h (b_cut F S (nI way)).1 (b_cut F S (nI way)).2) r h' := by
  refine m_call_ex (tab := tL_ofPack) (nL := 9) rfl rfl ?_
  obtain ⟨ok, yq, yb, yp, yk⟩ := id Y
  have l6 := t.1.2.2.2.2.2.2.2.2.2.2.2.1
  rw [y_bcut hw]
  refine m_E.run 2 (pc1 := 2) (ls1 := [some _, some _, some _, some _, some _, some _, some _, none, none]) (st1 := [_, _]) rfl ?_
  refine m_E.icf (by decide) rfl ?_
  refine m_E.run 2 (pc1 := 8) (ls1 := [some _, some _, some _, some _, some _, some _, some _, none, none]) (st1 := [_, _]) rfl ?_
  refine m_E.yr H.1 ok.1 rfl (by omega) (by decide) (yq.2.2.2.1) rfl ?_
  refine m_E.run 1 (pc1 := 10) (ls1 := [some _, some _, some _, some _, some _, some _, some _, none, none]) (st1 := [_, _]) rfl ?_
  by_cases ef : c_fr S = none
  · skip
    rw [if_pos ef]
    refine m_E.icf (by decide) rfl ?_
    refine m_E.run 2 (pc1 := 15) (ls1 := [some _, some _, some _, some _, some _, some _, some _, none, none]) (st1 := [_, _]) rfl ?_
    refine m_E.yr H.1 ok.1 rfl (by omega) (by decide) (yq.2.2.1) rfl ?_
    by_cases e0 : c_piled S = 0
    · skip
      rw [if_neg (fun z => by omega)]
      refine m_E.iff (by rw [e0]; rfl) rfl ?_
      refine m_E.run 1 (pc1 := 21) (ls1 := [some _, some _, some _, some _, some _, some _, some _, none, none]) (st1 := [_]) rfl ?_
      exact m_E.iret rfl (y_Op.chg Chg.rf H Y)
    · skip
      obtain ⟨i, hi, et⟩ := t.2.2.1.2.1 (c_piled S - 1) (by omega)
      have hs : c_top S = some i := et
      rw [if_pos ⟨ef, by omega⟩, hs]
      obtain ⟨_, h1, p1, rfl, c1, R1, g1, Y1⟩ := y_cuts (d := d + 1) H Y t G (by omega) hs (rfl : nI way = nI way) hw
      have ok1 := Y1.1
      refine m_E.ift (by rw [m_beq0 (by omega), decide_eq_false e0]; rfl) rfl ?_
      refine m_E.run 6 (pc1 := 31) (ls1 := [some _, some _, some _, some _, some _, some _, some _, none, none]) (st1 := [_, _, _, _, _, _]) rfl ?_
      refine m_E.cn rfl rfl (p1) ?_
      refine m_E.run 2 (pc1 := 36) (ls1 := [some _, some _, some _, some _, some _, some _, some _, none, none]) (st1 := [_, _]) rfl ?_
      refine m_E.yr g1.1 ok1.1 rfl (by omega) (by decide) (Y1.2.1.2.2.1) rfl ?_
      exact m_E.iret rfl (y_Op.chg c1 g1 Y1)
  · skip
    rw [if_neg ef, if_neg (fun z => ef z.1)]
    refine m_E.ict (by decide) rfl ?_
    refine m_E.run 1 (pc1 := 21) (ls1 := [some _, some _, some _, some _, some _, some _, some _, none, none]) (st1 := [_]) rfl ?_
    exact m_E.iret rfl (y_Op.chg Chg.rf H Y)
theorem y_bcutp {S : c_St} {a : Nat} (h1 : 1 ≤ a) (h2 : a < 100) : b_cutp S (nI a) = if c_fr S = none then (-4, none) else if c_lf S ≤ a then (-2, none) else (nI ((c_order (c_prt S (g_cutf a (c_lf S)))).getD (c_dealt S) 0), some (c_prt S (g_cutf a (c_lf S)))) := by
  have ll : c_lf S ≤ 24 := g_left_le _ _
  rw [b_cutp, m_cl (by omega)]
  by_cases c : c_lf S ≤ a
  · rw [if_pos c, if_pos (Or.inr ((m_le' (by omega) (by omega)).mpr c))]
  · have hn : ¬ (nI a < nI 1 ∨ nI (c_lf S) ≤ nI a) := by
      rw [m_ge (by omega) (by omega), m_le' (by omega) (by omega)]; omega
    rw [if_neg c, if_neg hn]
theorem y_ofP6 {d : Nat} {n : List Nat} {p a : Nat} {F : Nat → c_Sh} {S : c_St} {R : y_R} {h : m_Hp} (H : Hrw h R) (Y : Ry F S R) (t : Tok n p S) (ha : 1 ≤ a) (ha2 : a < 100) : ∃ r h', m_Call m_P (d + 4) 89 [.int (nI 6), .int (nI a), .ref 61, .ref 65, .ref 66, .ref 67, .ref 68] (h) r h' ∧ (y_Op F S h (b_cutp S (nI a)).1 (b_cutp S (nI a)).2) r h' := by
  refine m_call_ex (tab := tL_ofPack) (nL := 9) rfl rfl ?_
  obtain ⟨ok, yq, yb, yp, yk⟩ := id Y
  have ll : c_lf S ≤ 24 := g_left_le _ _
  rw [y_bcutp ha ha2]
  refine m_E.run 2 (pc1 := 2) (ls1 := [some _, some _, some _, some _, some _, some _, some _, none, none]) (st1 := [_, _]) rfl ?_
  refine m_E.ict (by decide) rfl ?_
  refine m_E.run 2 (pc1 := 41) (ls1 := [some _, some _, some _, some _, some _, some _, some _, none, none]) (st1 := [_, _]) rfl ?_
  refine m_E.yr H.1 ok.1 rfl (by omega) (by decide) (yq.2.2.2.1) rfl ?_
  by_cases ef : c_fr S = none
  · skip
    rw [if_pos ef, if_pos ef]
    refine m_E.iff (by decide) rfl ?_
    refine m_E.run 1 (pc1 := 47) (ls1 := [some _, some _, some _, some _, some _, some _, some _, none, none]) (st1 := [_]) rfl ?_
    exact m_E.iret rfl (y_Op.chg Chg.rf H Y)
  · skip
    rw [if_neg ef, if_neg ef]
    refine m_E.ift (by decide) rfl ?_
    refine m_E.run 2 (pc1 := 51) (ls1 := [some _, some _, some _, some _, some _, some _, some _, none, none]) (st1 := [_, _]) rfl ?_
    refine m_E.icf (by decide) rfl ?_
    refine m_E.run 3 (pc1 := 58) (ls1 := [some _, some _, some _, some _, some _, some _, some _, none, none]) (st1 := [_, _, _]) rfl ?_
    refine m_E.yr H.1 ok.1 rfl (by omega) (by decide) (yq.2.2.2.2.1) rfl ?_
    by_cases e0 : c_lf S ≤ a
    · skip
      rw [if_pos e0]
      refine m_E.ict ((m_leI (by omega) (by omega)).trans (decide_eq_true e0)) rfl ?_
      refine m_E.run 1 (pc1 := 78) (ls1 := [some _, some _, some _, some _, some _, some _, some _, none, none]) (st1 := [_]) rfl ?_
      exact m_E.iret rfl (y_Op.chg Chg.rf H Y)
    · skip
      rw [if_neg e0]
      refine m_E.icf ((m_leI (by omega) (by omega)).trans (decide_eq_false e0)) rfl ?_
      refine m_E.run 2 (pc1 := 65) (ls1 := [some _, some _, some _, some _, some _, some _, some _, none, none]) (st1 := [_, _]) rfl ?_
      refine m_E.ict (by decide) rfl ?_
      refine m_E.run 2 (pc1 := 82) (ls1 := [some _, some _, some _, some _, some _, some _, some _, none, none]) (st1 := [_, _]) rfl ?_
      refine m_E.yr H.1 ok.1 rfl (by omega) (by decide) (yq.2.2.2.2.1) rfl ?_
      refine m_E.run 3 (pc1 := 88) (ls1 := [some _, some _, some _, some _, some _, some _, some _, some _, none]) (st1 := [_, _]) rfl ?_
      refine m_E.icf (by decide) rfl ?_
      refine m_E.run 3 (pc1 := 95) (ls1 := [some _, some _, some _, some _, some _, some _, some _, some _, none]) (st1 := [_, _, _]) rfl ?_
      obtain ⟨_, h1, p1, rfl, vc, g1, c1, lc, k1⟩ := y_turns (d := d + 2) H ok (rfl : nI a = nI a) (by omega) yq.2.2.2.2.1 (by omega) ll
      refine m_E.cn rfl rfl (p1) ?_
      have Y1 : Ry F (c_prt S (g_cutf a (c_lf S))) (y_sc R vc) := Y.prt t ef (g_cutf_onto (by omega)) (fun j hj => by rw [g_cutf]; split <;> omega) lc (fun j hj => (k1 j hj).trans (by rw [y_cutf (by omega) hj]))
      have ok1 := Y1.1
      refine m_E.run 2 (pc1 := 101) (ls1 := [some _, some _, some _, some _, some _, some _, some _, some _, none]) (st1 := [_, _]) rfl ?_
      refine m_E.yr g1.2.2.2.2.2.1 ok1.2.2.2.2.2.1 rfl (by omega) (by decide) ((Y1.2.2.2.2.1 0 (show 0 < c_lf S by omega))) rfl ?_
      exact m_E.iret rfl (y_Op.chg c1 g1 Y1)
theorem y_bshuf {S : c_St} {a : Nat} (h1 : 1 ≤ a) (h2 : a < 100) : b_shuf S (nI a) = if c_fr S = none then (-4, none) else if c_lf S ≤ a then (-2, none) else (nI (g_cnt (fun j => !(g_before j a (c_lf S) == j)) (c_lf S)), some (c_prt S (fun j => g_before j a (c_lf S)))) := by
  have ll : c_lf S ≤ 24 := g_left_le _ _
  rw [b_shuf, m_cl (by omega)]
  by_cases c : c_lf S ≤ a
  · rw [if_pos c, if_pos (Or.inr ((m_le' (by omega) (by omega)).mpr c))]
  · have hn : ¬ (nI a < nI 1 ∨ nI (c_lf S) ≤ nI a) := by
      rw [m_ge (by omega) (by omega), m_le' (by omega) (by omega)]; omega
    rw [if_neg c, if_neg hn]
theorem y_ofP7 {d : Nat} {n : List Nat} {p a : Nat} {F : Nat → c_Sh} {S : c_St} {R : y_R} {h : m_Hp} (H : Hrw h R) (Y : Ry F S R) (t : Tok n p S) (hl : 69 ≤ h.length) (ha : 1 ≤ a) (ha2 : a < 100) : ∃ r h', m_Call m_P (d + 4) 89 [.int (nI 7), .int (nI a), .ref 61, .ref 65, .ref 66, .ref 67, .ref 68] (h) r h' ∧ (y_Op F S h (b_shuf S (nI a)).1 (b_shuf S (nI a)).2) r h' := by
  refine m_call_ex (tab := tL_ofPack) (nL := 9) rfl rfl ?_
  obtain ⟨ok, yq, yb, yp, yk⟩ := id Y
  have ll : c_lf S ≤ 24 := g_left_le _ _
  rw [y_bshuf ha ha2]
  refine m_E.run 2 (pc1 := 2) (ls1 := [some _, some _, some _, some _, some _, some _, some _, none, none]) (st1 := [_, _]) rfl ?_
  refine m_E.ict (by decide) rfl ?_
  refine m_E.run 2 (pc1 := 41) (ls1 := [some _, some _, some _, some _, some _, some _, some _, none, none]) (st1 := [_, _]) rfl ?_
  refine m_E.yr H.1 ok.1 rfl (by omega) (by decide) (yq.2.2.2.1) rfl ?_
  by_cases ef : c_fr S = none
  · skip
    rw [if_pos ef, if_pos ef]
    refine m_E.iff (by decide) rfl ?_
    refine m_E.run 1 (pc1 := 47) (ls1 := [some _, some _, some _, some _, some _, some _, some _, none, none]) (st1 := [_]) rfl ?_
    exact m_E.iret rfl (y_Op.chg Chg.rf H Y)
  · skip
    rw [if_neg ef, if_neg ef]
    refine m_E.ift (by decide) rfl ?_
    refine m_E.run 2 (pc1 := 51) (ls1 := [some _, some _, some _, some _, some _, some _, some _, none, none]) (st1 := [_, _]) rfl ?_
    refine m_E.icf (by decide) rfl ?_
    refine m_E.run 3 (pc1 := 58) (ls1 := [some _, some _, some _, some _, some _, some _, some _, none, none]) (st1 := [_, _, _]) rfl ?_
    refine m_E.yr H.1 ok.1 rfl (by omega) (by decide) (yq.2.2.2.2.1) rfl ?_
    by_cases e0 : c_lf S ≤ a
    · skip
      rw [if_pos e0]
      refine m_E.ict ((m_leI (by omega) (by omega)).trans (decide_eq_true e0)) rfl ?_
      refine m_E.run 1 (pc1 := 78) (ls1 := [some _, some _, some _, some _, some _, some _, some _, none, none]) (st1 := [_]) rfl ?_
      exact m_E.iret rfl (y_Op.chg Chg.rf H Y)
    · skip
      rw [if_neg e0]
      refine m_E.icf ((m_leI (by omega) (by omega)).trans (decide_eq_false e0)) rfl ?_
      refine m_E.run 2 (pc1 := 65) (ls1 := [some _, some _, some _, some _, some _, some _, some _, none, none]) (st1 := [_, _]) rfl ?_
      refine m_E.ict (by decide) rfl ?_
      refine m_E.run 2 (pc1 := 82) (ls1 := [some _, some _, some _, some _, some _, some _, some _, none, none]) (st1 := [_, _]) rfl ?_
      refine m_E.yr H.1 ok.1 rfl (by omega) (by decide) (yq.2.2.2.2.1) rfl ?_
      refine m_E.run 3 (pc1 := 88) (ls1 := [some _, some _, some _, some _, some _, some _, some _, some _, none]) (st1 := [_, _]) rfl ?_
      refine m_E.ict (by decide) rfl ?_
      refine m_E.run 2 (pc1 := 106) (ls1 := [some _, some _, some _, some _, some _, some _, some _, some _, none]) (st1 := [_, _]) rfl ?_
      refine m_E.icf (by decide) rfl ?_
      refine m_E.run 3 (pc1 := 113) (ls1 := [some _, some _, some _, some _, some _, some _, some _, some _, none]) (st1 := [_, _, _]) rfl ?_
      obtain ⟨_, h1, p1, rfl, vc, g1, f1, l1, ⟨vw, w1, w2⟩, lc, k1⟩ := y_shuffles (d := d + 2) H ok hl (rfl : nI a = nI a) yq.2.2.2.2.1 (by omega) (by omega) ll (y_inj Y t ef)
      refine m_E.cv rfl rfl (p1) ?_
      have Y1 : Ry F (c_prt S (fun j => g_before j a (c_lf S))) (y_sc R vc) := Y.prt t ef (g_before_onto (by omega)) (fun j hj => g_before_lt (by omega) hj) lc k1
      exact m_E.iret rfl ⟨rfl, f1, by omega, (fun k hk x hx => by by_cases z : k = h.length; rw [z, w1] at hx; rw [← Option.some.inj hx]; show vw.length ≤ 60; omega; rw [List.getElem?_eq_none (by omega)] at hx; cases hx), _, g1, Y1⟩
theorem y_bdeal {S : c_St} {a : Nat} (h1 : 1 ≤ a) (h2 : a < 100) : b_deal S (nI a) = if c_fr S = none then (-4, none) else if a ≤ c_lf S then (nI (c_lf S - a), some (c_setDealt S (c_dealt S + a))) else (-2, none) := by
  have ll : c_lf S ≤ 24 := g_left_le _ _
  rw [b_deal, m_cl (by omega)]
  by_cases c : a ≤ c_lf S
  · have hn : ¬ (nI a < nI 1 ∨ ¬ nI a ≤ nI (c_lf S)) := by
      rw [m_ge (by omega) (by omega), m_le' (by omega) (by omega)]; omega
    rw [if_pos c, if_neg hn]
  · rw [if_neg c, if_pos (Or.inr (fun z => c ((m_le' (by omega) (by omega)).mp z)))]
theorem y_ofP8 {d : Nat} {n : List Nat} {p a : Nat} {F : Nat → c_Sh} {S : c_St} {R : y_R} {h : m_Hp} (H : Hrw h R) (Y : Ry F S R) (t : Tok n p S) (ha : 1 ≤ a) (ha2 : a < 100) : ∃ r h', m_Call m_P (d + 4) 89 [.int (nI 8), .int (nI a), .ref 61, .ref 65, .ref 66, .ref 67, .ref 68] (h) r h' ∧ (y_Op F S h (b_deal S (nI a)).1 (b_deal S (nI a)).2) r h' := by
  refine m_call_ex (tab := tL_ofPack) (nL := 9) rfl rfl ?_
  obtain ⟨ok, yq, yb, yp, yk⟩ := id Y
  have ll : c_lf S ≤ 24 := g_left_le _ _
  rw [y_bdeal ha ha2]
  refine m_E.run 2 (pc1 := 2) (ls1 := [some _, some _, some _, some _, some _, some _, some _, none, none]) (st1 := [_, _]) rfl ?_
  refine m_E.ict (by decide) rfl ?_
  refine m_E.run 2 (pc1 := 41) (ls1 := [some _, some _, some _, some _, some _, some _, some _, none, none]) (st1 := [_, _]) rfl ?_
  refine m_E.yr H.1 ok.1 rfl (by omega) (by decide) (yq.2.2.2.1) rfl ?_
  by_cases ef : c_fr S = none
  · skip
    rw [if_pos ef, if_pos ef]
    refine m_E.iff (by decide) rfl ?_
    refine m_E.run 1 (pc1 := 47) (ls1 := [some _, some _, some _, some _, some _, some _, some _, none, none]) (st1 := [_]) rfl ?_
    exact m_E.iret rfl (y_Op.chg Chg.rf H Y)
  · skip
    rw [if_neg ef, if_neg ef]
    refine m_E.ift (by decide) rfl ?_
    refine m_E.run 2 (pc1 := 51) (ls1 := [some _, some _, some _, some _, some _, some _, some _, none, none]) (st1 := [_, _]) rfl ?_
    refine m_E.ict (by decide) rfl ?_
    refine m_E.run 2 (pc1 := 65) (ls1 := [some _, some _, some _, some _, some _, some _, some _, none, none]) (st1 := [_, _]) rfl ?_
    refine m_E.icf (by decide) rfl ?_
    refine m_E.run 3 (pc1 := 72) (ls1 := [some _, some _, some _, some _, some _, some _, some _, none, none]) (st1 := [_, _, _]) rfl ?_
    refine m_E.yr H.1 ok.1 rfl (by omega) (by decide) (yq.2.2.2.2.1) rfl ?_
    by_cases e0 : a ≤ c_lf S
    · skip
      rw [if_pos e0]
      obtain ⟨_, _, D, d1, d2, d3⟩ := yk.2 ef
      have lf := c_lf_eq t ef
      refine m_E.ict ((m_leI (by omega) (by omega)).trans (decide_eq_true e0)) rfl ?_
      refine m_E.run 2 (pc1 := 82) (ls1 := [some _, some _, some _, some _, some _, some _, some _, none, none]) (st1 := [_, _]) rfl ?_
      refine m_E.yr H.1 ok.1 rfl (by omega) (by decide) (yq.2.2.2.2.1) rfl ?_
      refine m_E.run 3 (pc1 := 88) (ls1 := [some _, some _, some _, some _, some _, some _, some _, some _, none]) (st1 := [_, _]) rfl ?_
      refine m_E.ict (by decide) rfl ?_
      refine m_E.run 2 (pc1 := 106) (ls1 := [some _, some _, some _, some _, some _, some _, some _, some _, none]) (st1 := [_, _]) rfl ?_
      refine m_E.ict (by decide) rfl ?_
      refine m_E.run 2 (pc1 := 120) (ls1 := [some _, some _, some _, some _, some _, some _, some _, some _, none]) (st1 := [_, _]) rfl ?_
      refine m_E.icf (by decide) rfl ?_
      refine m_E.run 2 (pc1 := 126) (ls1 := [some _, some _, some _, some _, some _, some _, some _, some _, some _]) (st1 := []) rfl ?_
      refine m_E.lp (fun i ls hh => ls = [some (.int (nI 8)), some (.int (nI a)), some (.ref 61), some (.ref 65), some (.ref 66), some (.ref 67), some (.ref 68), some (.int (nI (c_lf S))), some (.int (nI i))] ∧ (∃ D2, Hrw hh (y_sq R ((y_q R).set 11 (nI D2))) ∧ Chg 61 69 h hh ∧ D2 < 2 ^ 24 ∧ ∀ c, c < 24 → D2.testBit c = (q_dl S c || decide (∃ k, k < i ∧ (c_order S).getD (c_dealt S + k) 0 = c)))) a ?_ ?_ ?_
      · skip
        rintro i _ hh hi ⟨rfl, hI⟩ K
        obtain ⟨D2, g1, c1, b1, b2⟩ := hI
        have hi : i < a := by assumption
        have lo := t.ord (c_dealt S + i) (by omega)
        have ok1 := ok.wq (j := 11) (x := nI D2)
        refine m_E.run 2 (pc1 := 129) (ls1 := [some _, some _, some _, some _, some _, some _, some _, some _, some _]) (st1 := [_, _]) rfl ?_
        refine m_E.icf ((m_leI (by omega) (by omega)).trans (decide_eq_false (by omega))) rfl ?_
        refine m_E.run 3 (pc1 := 136) (ls1 := [some _, some _, some _, some _, some _, some _, some _, some _, some _]) (st1 := [_, _, _, _]) rfl ?_
        refine m_E.yr g1.1 ok1.1 rfl (by omega) (by decide) ((y_at ok.1 (by decide))) rfl ?_
        refine m_E.run 3 (pc1 := 142) (ls1 := [some _, some _, some _, some _, some _, some _, some _, some _, some _]) (st1 := [_, _, _, _, _, _]) rfl ?_
        refine m_E.yr g1.2.2.2.2.2.1 ok1.2.2.2.2.2.1 rfl (by omega) (by decide) ((yk.1 i (by omega))) rfl ?_
        refine m_E.run 2 (pc1 := 145) (ls1 := [some _, some _, some _, some _, some _, some _, some _, some _, some _]) (st1 := [_, _, _]) rfl ?_
        dsimp only
        rw [y_or1 _ lo, m_or]
        refine m_E.yq g1 ok1 rfl (by omega) rfl (fun h2 g2 c2 => ?_)
        refine m_E.run 2 (pc1 := 126) (ls1 := [some _, some _, some _, some _, some _, some _, some _, some _, some _]) (st1 := []) rfl ?_
        rw [nI_add]
        have lD : D2 ||| 2 ^ (c_order S).getD (c_dealt S + i) 0 < 2 ^ 24 := Nat.or_lt_two_pow b1 (Nat.pow_lt_pow_right (by decide) lo)
        have e11 : ((y_q R).set 11 (nI D2)).set 11 (nI (D2 ||| 2 ^ (c_order S).getD (c_dealt S + i) 0)) = (y_q R).set 11 (nI (D2 ||| 2 ^ (c_order S).getD (c_dealt S + i) 0)) := List.set_set ..
        have g3 : Hrw h2 (y_sq R ((y_q R).set 11 (nI (D2 ||| 2 ^ (c_order S).getD (c_dealt S + i) 0)))) := by rw [← e11]; exact g2
        refine K _ _ ⟨rfl, _, g3, c1.tr c2, lD, fun c hc => ?_⟩
        rw [Nat.testBit_or, b2 c hc, Nat.testBit_two_pow, Bool.or_assoc]
        congr 1
        rw [Bool.eq_iff_iff, Bool.or_eq_true, decide_eq_true_iff, decide_eq_true_iff, decide_eq_true_iff]
        constructor
        · rintro (⟨k, hk, e⟩ | e)
          · exact ⟨k, by omega, e⟩
          · exact ⟨i, by omega, e⟩
        · rintro ⟨k, hk, e⟩
          by_cases z : k = i
          · exact Or.inr (by rw [← z]; exact e)
          · exact Or.inl ⟨k, by omega, e⟩
      · skip
        refine ⟨rfl, D, ?_, Chg.rf, d1, fun c hc => ?_⟩
        · rw [show (y_q R).set 11 (nI D) = y_q R from by rw [← d2]; exact m_set_self (by rw [List.getD_eq_getElem?_getD, List.getElem?_eq_getElem (by rw [ok.1]; decide)]; rfl)]; exact H
        · rw [d3 c hc, decide_eq_false (fun z => by obtain ⟨k, hk, _⟩ := z; omega), Bool.or_false]
      · skip
        rintro _ hh ⟨rfl, hI⟩
        obtain ⟨D2, g1, c1, b1, b2⟩ := hI
        have ok1 := ok.wq (j := 11) (x := nI D2)
        have lq1 : ((y_q R).set 11 (nI D2)).length = 12 := (List.length_set ..).trans ok.1
        obtain ⟨_, h2, p2, rfl, vc, g2, c2, lc, k1⟩ := y_turns (d := d + 2) g1 ok1 (rfl : nI a = nI a) (by omega) ((y_off (by decide)).trans yq.2.2.2.2.1) (by omega) ll
        refine m_E.run 2 (pc1 := 129) (ls1 := [some _, some _, some _, some _, some _, some _, some _, some _, some _]) (st1 := [_, _]) rfl ?_
        refine m_E.ict ((m_leI (by omega) (by omega)).trans (decide_eq_true (Nat.le_refl _))) rfl ?_
        refine m_E.run 3 (pc1 := 156) (ls1 := [some _, some _, some _, some _, some _, some _, some _, some _, some _]) (st1 := [_, _, _]) rfl ?_
        refine m_E.cn rfl rfl (p2) ?_
        have ok2 := ok1.vc lc
        refine m_E.run 3 (pc1 := 163) (ls1 := [some _, some _, some _, some _, some _, some _, some _, some _, some _]) (st1 := [_, _, _, _]) rfl ?_
        refine m_E.yr g2.1 ok2.1 rfl (by omega) (by decide) (((y_off (by decide)).trans yq.2.2.2.2.1)) rfl ?_
        refine m_E.run 2 (pc1 := 166) (ls1 := [some _, some _, some _, some _, some _, some _, some _, some _, some _]) (st1 := [_, _, _]) rfl ?_
        dsimp only
        rw [pk_sub e0]
        refine m_E.yq g2 ok2 rfl (by omega) rfl (fun h3 g3 c3 => ?_)
        have ok3 := ok2.wq (j := 7) (x := nI (c_lf S - a))
        refine m_E.run 2 (pc1 := 170) (ls1 := [some _, some _, some _, some _, some _, some _, some _, some _, some _]) (st1 := [_, _]) rfl ?_
        refine m_E.yr g3.1 ok3.1 rfl (by omega) (by decide) ((y_at lq1 (by decide))) rfl ?_
        have Y3 : Ry F (c_setDealt S (c_dealt S + a)) (y_mk (((y_q R).set 11 (nI D2)).set 7 (nI (c_lf S - a))) (y_b R) (y_m R) (y_l R) (y_p R) vc (y_g R) (y_h R)) := Y.deal t ef e0 lc ((List.length_set ..).trans lq1) (fun j hj => by rw [k1 j (by omega), Nat.mod_eq_of_lt (by omega)]; rfl) (y_at lq1 (by decide)) ((y_off (by decide)).trans (y_at ok.1 (by decide))) (fun j z1 z2 => (y_off (Ne.symm z1)).trans (y_off (Ne.symm z2))) b1 b2
        exact m_E.iret rfl (y_Op.chg (c1.tr (c2.tr c3)) g3 Y3)
    · skip
      rw [if_neg e0]
      refine m_E.icf ((m_leI (by omega) (by omega)).trans (decide_eq_false e0)) rfl ?_
      refine m_E.run 1 (pc1 := 78) (ls1 := [some _, some _, some _, some _, some _, some _, some _, none, none]) (st1 := [_]) rfl ?_
      exact m_E.iret rfl (y_Op.chg Chg.rf H Y)
