/-! the model reads changes -/
theorem p_num_01 {sg : Nat → Nat} {most a : Nat} (h : sg a ≠ 48) : p_num sg 0 most a = p_num sg 1 most a := by
  rcases e1 : p_dig (sg a) with _ | v
  · rw [p_num, p_num, e1]
  · have hv : v ≠ 0 := by
      intro z
      unfold p_dig at e1
      split at e1
      · have := Option.some.inj e1; omega
      · cases e1
    rw [p_num, p_num, e1]
    dsimp only
    by_cases c : v < 0 ∨ most < v
    · rw [if_pos c, if_pos (by omega)]
    · rw [if_neg c, if_neg (by omega)]
theorem p_num_48 {sg : Nat → Nat} {most a : Nat} (h : sg a = 48) : p_num sg 1 most a = (none, a) := by
  have e1 : p_dig (sg a) = some 0 := by rw [h]; rfl
  rw [p_num, e1]
  dsimp only
  rw [if_pos (Or.inl (by decide))]
/-- what a reading of a change leaves -/
def d_got (M : c_M) (h h2 : m_Hp) (c : Option (Nat × Nat × Int32) × Nat) : Prop := ∃ s f g, Hmo h2 (d_rd M c.2 s f g) ∧ (∀ k i v, c.1 = some (k, i, v) → s = nI k ∧ f = nI i ∧ g = v) ∧ Chg 61 69 h h2
theorem m_E.imp {C : m_CR} {tab : m_Tab} {pc : Nat} {ls : m_Ls} {st : List Value} {h : m_Hp} {Q Q2 : Option Value → m_Hp → Prop} (k : m_E C tab pc ls st h Q) (f : ∀ r h, Q r h → Q2 r h) : m_E C tab pc ls st h Q2 := by
  obtain ⟨n, r, h', a, b⟩ := k
  exact ⟨n, r, h', a, f r h' b⟩
def d_fl (M : c_M) (a : Nat) (s f g : Int32) : List Value := [.ref 62, .ref 63, .ref 64, .int (nI (d_many M)), .ref 65, .int (m_bI (d_has M)), .ref 66, .int (nI (d_len M)), .int (nI a), .int s, .int f, .int g, .ref 67, .ref 68]
theorem Hmo.ro {h : m_Hp} {M : c_M} {a : Nat} {s f g : Int32} (H : Hmo h (d_rd M a s f g)) : h[61]? = some (.inr (.inl (6, d_fl M a s f g))) := H.1
theorem Hmo.rset {h h1 : m_Hp} {M : c_M} {a a2 : Nat} {s f g s2 f2 g2 : Int32} (H : Hmo h (d_rd M a s f g)) (u : Upd 61 (.inr (.inl (6, d_fl M a2 s2 f2 g2))) h h1) : Hmo h1 (d_rd M a2 s2 f2 g2) := ⟨u.2.1, (u.2.2 _ (by decide)).trans H.2.1, (u.2.2 _ (by decide)).trans H.2.2.1, (u.2.2 _ (by decide)).trans H.2.2.2.1, (u.2.2 _ (by decide)).trans H.2.2.2.2.1, (u.2.2 _ (by decide)).trans H.2.2.2.2.2.1, (u.2.2 _ (by decide)).trans H.2.2.2.2.2.2.1, (u.2.2 _ (by decide)).trans H.2.2.2.2.2.2.2⟩
theorem e_rl_fin {d z : Nat} {b is : Bool} {w s f g : Int32} {M : c_M} {h2 : m_Hp} (hw : (w == -5) = !is) (H2 : Hmo h2 (d_rd M z s f g)) : m_E (m_Call m_P (d + 2)) tX6_readsLean 29 [some (.ref 61), some (.int (m_bI b)), none] [.int w, .ref 61] h2 (fun r h4 => r = some (.int (m_bI is)) ∧ Hmo h4 (d_rd M z s f (if b = true then -w else w)) ∧ Chg 61 69 h2 h4) := by
  refine m_E.pg H2.ro (by decide) rfl (Nat.le_of_ble_eq_true rfl) rfl (fun h3 u3 => ?_)
  have H3 : Hmo h3 (d_rd M z s f w) := H2.rset u3
  have c3 := u3.chg (lo := 61) (hi := 69) (by decide) (by decide)
  refine m_E.run 1 (pc1 := 33) (ls1 := [some _, some _, none]) (st1 := [_]) rfl ?_
  refine m_E.gf H3.ro (by decide) rfl rfl ?_
  refine m_E.run 1 (pc1 := 38) (ls1 := [some _, some _, none]) (st1 := [_, _]) rfl ?_
  have tail : m_E (m_Call m_P (d + 2)) tX6_readsLean 46 [some (.ref 61), some (.int (m_bI b)), none] [.int (m_bI is)] h3 (fun r h4 => r = some (.int (m_bI is)) ∧ Hmo h4 (d_rd M z s f (if b = true then -w else w)) ∧ Chg 61 69 h2 h4) := by
    refine m_E.run 3 (pc1 := 49) (ls1 := [some _, some _, some _]) (st1 := [_, _]) rfl ?_
    cases b
    · refine m_E.ift (by decide) rfl ?_
      refine m_E.run 1 (pc1 := 61) (ls1 := [some _, some _, some _]) (st1 := [_, _]) rfl ?_
      refine m_E.gf H3.ro (by decide) rfl rfl ?_
      refine m_E.pg H3.ro (by decide) rfl (Nat.le_of_ble_eq_true rfl) rfl (fun h4 u4 => ?_)
      have H4 : Hmo h4 (d_rd M z s f w) := H3.rset u4
      refine m_E.run 1 (pc1 := 68) (ls1 := [some _, some _, some _]) (st1 := [_]) rfl ?_
      rw [if_neg (by decide)]
      exact m_E.zret (m_bI_z _) rfl ⟨rfl, H4, c3.tr (u4.chg (by decide) (by decide))⟩
    · refine m_E.iff (by decide) rfl ?_
      refine m_E.run 1 (pc1 := 53) (ls1 := [some _, some _, some _]) (st1 := [_, _]) rfl ?_
      refine m_E.gf H3.ro (by decide) rfl rfl ?_
      refine m_E.run 2 (pc1 := 64) (ls1 := [some _, some _, some _]) (st1 := [_, _]) rfl ?_
      dsimp only
      rw [if_pos rfl]
      generalize -w = w2
      refine m_E.pg H3.ro (by decide) rfl (Nat.le_of_ble_eq_true rfl) rfl (fun h4 u4 => ?_)
      have H4 : Hmo h4 (d_rd M z s f w2) := H3.rset u4
      refine m_E.run 1 (pc1 := 68) (ls1 := [some _, some _, some _]) (st1 := [_]) rfl ?_
      exact m_E.zret (m_bI_z _) rfl ⟨rfl, H4, c3.tr (u4.chg (by decide) (by decide))⟩
  cases is
  · refine m_E.ict hw rfl ?_
    refine m_E.run 1 (pc1 := 46) (ls1 := [some _, some _, none]) (st1 := [_]) rfl ?_
    exact tail
  · refine m_E.icf hw rfl ?_
    refine m_E.run 2 (pc1 := 46) (ls1 := [some _, some _, none]) (st1 := [_]) rfl ?_
    exact tail
theorem e_readsLean {d : Nat} {a k i : Nat} {g : Int32} {M : c_M} {h0 h : m_Hp} (H : Hmo h (d_rd M a (nI k) (nI i) g)) (ok : Okm M) (ha : a < 500) (hk : k = 108) (c0 : Chg 61 69 h0 h) : ∃ r h', m_Call m_P (d + 3) 144 [.ref 61] (h) r h' ∧ (fun r h2 => r = some (.int (m_bI (if y_sg M a = 45 then p_tail (y_sg M) k i true (a + 1) else p_tail (y_sg M) k i false a).1.isSome)) ∧ d_got M h0 h2 (if y_sg M a = 45 then p_tail (y_sg M) k i true (a + 1) else p_tail (y_sg M) k i false a)) r h' := by
  refine m_call_ex (tab := tX6_readsLean) (nL := 3) rfl rfl ?_
  have hmo : p_most k = 9 := by rw [hk]; rfl
  refine m_E.run 2 (pc1 := 3) (ls1 := [some _, none, none]) (st1 := [_, _]) rfl ?_
  obtain ⟨_, h1, p1, rfl, H1, c1⟩ := e_takes (d := d + 1) H ok (by omega) (rfl : nI 45 = nI 45) (by decide) (by decide)
  replace c1 := c0.tr c1
  refine m_E.ov H.o (by decide) rfl rfl rfl (p1) ?_
  have tail : ∀ (b : Bool) m, (b = true → y_sg M m ≠ 48) → m < 1000 → ∀ h1, Hmo h1 (d_rd M m (nI k) (nI i) g) → Chg 61 69 h0 h1 → m_E (m_Call m_P (d + 2)) tX6_readsLean 22 [some (.ref 61), some (.int (m_bI b)), none] [] h1 (fun r h2 => r = some (.int (m_bI (p_tail (y_sg M) k i b m).1.isSome)) ∧ d_got M h0 h2 (p_tail (y_sg M) k i b m)) := by
    intro b m hb hm h1 H1 c1
    refine m_E.run 3 (pc1 := 26) (ls1 := [some _, some _, none]) (st1 := [_, _, _]) rfl ?_
    obtain ⟨_, h2, p2, rfl, H2, c2⟩ := e_readNumber (d := d) H1 ok hm (rfl : nI 9 = nI 9) (by decide)
    replace c2 := c1.tr c2
    refine m_E.ov H1.o (by decide) rfl rfl rfl (p2) ?_
    have en : p_num (y_sg M) 0 9 m = p_num (y_sg M) (if b = true then 1 else 0) 9 m := by
      cases b
      · rfl
      · exact p_num_01 (hb rfl)
    rw [en] at H2 ⊢
    have lim := fun v => (p_num_pos (l := if b = true then 1 else 0) (m := 9) (len := max (d_len M) m) (sg := y_sg M) (fun j hj => Nat.lt_of_lt_of_le (y_sg_pos hj) (Nat.le_max_left _ _)) (Nat.le_max_right (d_len M) m)).2.2 v
    generalize hq : p_num (y_sg M) (if b = true then 1 else 0) 9 m = q at H2 lim ⊢
    rcases q with ⟨_ | v, z⟩
    · have et : p_tail (y_sg M) k i b m = (none, z) := by rw [p_tail, hmo, hq]
      rw [et]
      exact m_E.imp (e_rl_fin (is := false) (w := -5) rfl H2) (fun r h4 q => ⟨q.1, _, _, _, q.2.1, (fun _ _ _ q => by cases q), c2.tr q.2.2⟩)
    · have lv := (lim v rfl).2.1
      have et : p_tail (y_sg M) k i b m = (some (k, i, if b = true then -(nI v) else nI v), z) := by rw [p_tail, hmo, hq]
      rw [et]
      exact m_E.imp (e_rl_fin (is := true) (w := nI v) (m_n5 (by omega)) H2) (fun r h4 q => ⟨q.1, _, _, _, q.2.1, (fun _ _ _ q => by cases q; exact ⟨rfl, rfl, rfl⟩), c2.tr q.2.2⟩)
  by_cases eb : y_sg M a = 45
  · skip
    rw [if_pos eb] at H1 ⊢
    rw [decide_eq_true eb]
    refine m_E.run 2 (pc1 := 8) (ls1 := [some _, some _, none]) (st1 := [_]) rfl ?_
    refine m_E.iff (by decide) rfl ?_
    refine m_E.run 1 (pc1 := 12) (ls1 := [some _, some _, none]) (st1 := [_]) rfl ?_
    refine m_E.ov H1.o (by decide) rfl rfl rfl (e_code H1 ok (by omega)) ?_
    have ls := y_sg_lt ok (a + 1)
    refine m_E.run 1 (pc1 := 17) (ls1 := [some _, some _, none]) (st1 := [_, _]) rfl ?_
    by_cases e0 : y_sg M (a + 1) = 48
    · skip
      have et : p_tail (y_sg M) k i true (a + 1) = (none, a + 1) := by rw [p_tail, if_pos rfl, p_num_48 e0]
      rw [et]
      refine m_E.icf (by rw [e0]; decide) rfl ?_
      refine m_E.run 1 (pc1 := 21) (ls1 := [some _, some _, none]) (st1 := [_]) rfl ?_
      exact m_E.zret (by decide) rfl ⟨rfl, _, _, _, H1, (fun _ _ _ q => by cases q), c1⟩
    · skip
      refine m_E.ict (by rw [m_neI (by omega) (by omega)]; exact decide_eq_true e0) rfl ?_
      exact tail true (a + 1) (fun _ => e0) (by omega) _ H1 c1
  · skip
    rw [if_neg eb] at H1 ⊢
    rw [decide_eq_false eb]
    refine m_E.run 2 (pc1 := 8) (ls1 := [some _, some _, none]) (st1 := [_]) rfl ?_
    refine m_E.ift (by decide) rfl ?_
    exact tail false a (fun z => by cases z) (by omega) _ H1 c1
