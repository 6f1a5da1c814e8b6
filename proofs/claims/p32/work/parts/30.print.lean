/-! printing -/
def g_printed (S : c_St) (k : Nat) : c_St := g_wear (c_setPrinted (c_setPiled (c_setPile S ((c_pile S).set (c_piled S) (some k))) (c_piled S + 1)) (c_printed S + 1))
theorem c_print {d : Nat} {b : Nat} {tu : Bool} {S : c_St} {x : Int32} {h : m_Hp} (hs : Hst h b S) (ok : Oks S) (hp : c_piled S < 6) (hl : b + 8 ≤ h.length) (hpr : c_printed S + 1 < 2 ^ 30) (hx : x = m_bI tu) (pm : g_perm (c_cards S)) : ∃ r h', m_Call m_P (d + 4) 33 [.ref b, .int x] (h) r h' ∧ (fun r h2 => r = none ∧ h2.length = h.length + 4 ∧ (∀ j, j < h.length → (j < b ∨ b + 8 ≤ j) → h2[j]? = h[j]?) ∧ Hst h2 b (g_printed S h.length) ∧ Hsh h2 h.length (g_sheet S tu)) r h' := by
  refine m_call_ex (tab := tX3_printSheet) (nL := 2) rfl rfl ?_
  subst hx
  obtain ⟨k1, k2, k3, k4, k5, k6, k7, k8, k9, k10, k11, k12, k13⟩ := id ok
  have hb : 3 < b := hs.1
  refine m_E.run 1 (pc1 := 1) (ls1 := [some _, some _]) (st1 := [_]) rfl ?_
  refine m_E.gf hs.2.1 hb rfl rfl ?_
  refine m_E.iff (by rw [show (0 : Int32) = nI 0 from rfl, m_ltI (by omega) (by omega), decide_eq_false_iff_not]; omega) rfl ?_
  refine m_E.run 1 (pc1 := 8) (ls1 := [some _, some _]) (st1 := [_]) rfl ?_
  refine m_E.gf hs.2.1 hb rfl rfl ?_
  refine m_E.run 1 (pc1 := 13) (ls1 := [some _, some _]) (st1 := [_, _]) rfl ?_
  refine m_E.ict (by rw [m_ltI (by omega) (by omega), decide_eq_true_eq]; omega) rfl ?_
  refine m_E.run 1 (pc1 := 18) (ls1 := [some _, some _]) (st1 := [_]) rfl ?_
  refine m_E.gf hs.2.1 hb rfl rfl ?_
  refine m_E.run 1 (pc1 := 22) (ls1 := [some _, some _]) (st1 := [_, _]) rfl ?_
  refine m_E.gf hs.2.1 hb rfl rfl ?_
  refine m_E.new rfl (fun h1 n1 => ?_)
  have g1 := hs.same n1.2.2
  generalize hk : h.length = k at n1 hl ⊢
  unfold New at n1
  rw [hk] at n1
  refine m_E.run 2 (pc1 := 30) (ls1 := [some _, some _]) (st1 := [_, _, _, _, _]) rfl ?_
  refine m_E.gf g1.2.1 hb rfl rfl ?_
  refine m_E.run 1 (pc1 := 34) (ls1 := [some _, some _]) (st1 := [_, _, _, _, _, _]) rfl ?_
  refine m_E.gf g1.2.1 hb rfl rfl ?_
  refine m_E.run 1 (pc1 := 38) (ls1 := [some _, some _]) (st1 := [_, _, _, _, _, _, _]) rfl ?_
  refine m_E.gf g1.2.1 hb rfl rfl ?_
  refine m_E.run 1 (pc1 := 42) (ls1 := [some _, some _]) (st1 := [_, _, _, _, _, _, _, _]) rfl ?_
  obtain ⟨_, h2, p1, rfl, p2, p3, p4⟩ := c_sheetNew (d := d + 1) (k := k) g1 ok (by omega) n1.1 n1.2.1 (rfl : m_bI tu = m_bI tu) pm
  refine m_E.on n1.2.1 (by omega) rfl rfl rfl (p1) ?_
  have s2 : ∀ j, j < k → h2[j]? = h[j]? := fun j hj => (p3 j hj).trans (n1.2.2 j hj)
  have g2 : Hst h2 b S := hs.same (by rw [hk]; exact s2)
  change m_E _ _ _ _ (m_rf (some k) :: .int (nI (c_piled S)) :: .ref (b + 5) :: []) _ _
  refine g2.pp ok rfl hp (fun k2 e => by cases e; exact ⟨by omega, _, p4.2.1⟩) rfl (fun h3 g3 c3 => ?_)
  refine m_E.run 2 (pc1 := 48) (ls1 := [some _, some _]) (st1 := [_, _]) rfl ?_
  refine m_E.gf g3.2.1 hb rfl rfl ?_
  refine m_E.run 2 (pc1 := 53) (ls1 := [some _, some _]) (st1 := [_, _]) rfl ?_
  dsimp only
  change m_E _ _ _ _ (.int (nI (c_piled S) + nI 1) :: _) _ _
  rw [nI_add]
  refine g3.p6 rfl rfl (fun h4 g4 c4 => ?_)
  refine m_E.run 2 (pc1 := 58) (ls1 := [some _, some _]) (st1 := [_, _]) rfl ?_
  refine m_E.gf g4.2.1 hb rfl rfl ?_
  refine m_E.run 2 (pc1 := 63) (ls1 := [some _, some _]) (st1 := [_, _]) rfl ?_
  dsimp only
  change m_E _ _ _ _ (.int (nI (c_printed S) + nI 1) :: _) _ _
  rw [nI_add]
  refine g4.p7 rfl rfl (fun h5 g5 c5 => ?_)
  refine m_E.run 1 (pc1 := 67) (ls1 := [some _, some _]) (st1 := [_]) rfl ?_
  have ok5 : Oks (c_setPrinted (c_setPiled (c_setPile S ((c_pile S).set (c_piled S) (some k))) (c_piled S + 1)) (c_printed S + 1)) := ⟨k1, k2, k3, k4, k5, k6, k7, (List.length_set ..).trans k8, k9, k10, k11, by show c_piled S + 1 ≤ 6; omega, hpr⟩
  obtain ⟨_, h6, p5, rfl, g6, c6⟩ := c_wear (d := d) g5 ok5
  refine m_E.on g5.2.1 hb rfl rfl rfl (p5) ?_
  have c := c3.tr (c4.tr (c5.tr c6))
  exact m_E.vret rfl ⟨rfl, by rw [c.1, p2], fun j hj hj2 => (c.2 j hj2).trans (s2 j hj), g6, p4.off c (by omega)⟩
