/-! reading a change -/
theorem p_num_pos {sg : Nat → Nat} {len l m a : Nat} (hz : ∀ j, sg j ≠ 0 → j < len) (ha : a ≤ len) : a ≤ (p_num sg l m a).2 ∧ (p_num sg l m a).2 ≤ len ∧ ∀ v, (p_num sg l m a).1 = some v → a + 1 ≤ (p_num sg l m a).2 ∧ v ≤ m ∧ l ≤ v := by
  rcases e1 : p_dig (sg a) with _ | v
  · have e : p_num sg l m a = (none, a) := by rw [p_num, e1]
    rw [e]
    exact ⟨Nat.le_refl _, ha, fun _ z => by cases z⟩
  · obtain ⟨l1, s1⟩ := p_dig_lt e1
    have b1 := hz a s1
    by_cases c1 : v < l ∨ m < v
    · have e : p_num sg l m a = (none, a) := by rw [p_num, e1]; dsimp only; rw [if_pos c1]
      rw [e]
      exact ⟨Nat.le_refl _, ha, fun _ z => by cases z⟩
    · rcases e2 : p_dig (sg (a + 1)) with _ | w
      · have e : p_num sg l m a = (some v, a + 1) := by rw [p_num, e1]; dsimp only; rw [if_neg c1, e2]
        rw [e]
        refine ⟨by dsimp only; omega, by dsimp only; omega, fun x z => ?_⟩
        have z2 : v = x := Option.some.inj z
        subst z2
        exact ⟨by dsimp only; omega, by omega, by omega⟩
      · obtain ⟨l2, s2⟩ := p_dig_lt e2
        have b2 := hz (a + 1) s2
        by_cases c2 : v = 0 ∨ m < 10 * v + w
        · have e : p_num sg l m a = (some v, a + 1) := by rw [p_num, e1]; dsimp only; rw [if_neg c1, e2]; dsimp only; rw [if_pos c2]
          rw [e]
          refine ⟨by dsimp only; omega, by dsimp only; omega, fun x z => ?_⟩
          have z2 : v = x := Option.some.inj z
          subst z2
          exact ⟨by dsimp only; omega, by omega, by omega⟩
        · have e : p_num sg l m a = (some (10 * v + w), a + 2) := by rw [p_num, e1]; dsimp only; rw [if_neg c1, e2]; dsimp only; rw [if_neg c2]
          rw [e]
          refine ⟨by dsimp only; omega, by dsimp only; omega, fun x z => ?_⟩
          have z2 : 10 * v + w = x := Option.some.inj z
          subst z2
          exact ⟨by dsimp only; omega, by omega, by omega⟩
def p_most (k : Nat) : Nat := if k = 115 then 23 else if k = 108 then 9 else 3
def p_tail (sg : Nat → Nat) (k f : Nat) (below : Bool) (m : Nat) : Option (Nat × Nat × Int32) × Nat := match p_num sg (if below then 1 else 0) (p_most k) m with
  | (none, z) => (none, z)
  | (some s, z) => (some (k, f, if below then -(nI s) else nI s), z)
def p_change (sg : Nat → Nat) (a : Nat) : Option (Nat × Nat × Int32) × Nat :=
  if sg a = 115 ∨ sg a = 109 ∨ sg a = 117 ∨ sg a = 108 then
    match p_num sg 0 23 (a + 1) with
    | (none, n) => (none, n)
    | (some f, n) => if sg n = (if sg a = 115 then 47 else 61) then (if sg a = 108 ∧ sg (n + 1) = 45 then p_tail sg (sg a) f true (n + 2) else p_tail sg (sg a) f false (n + 1)) else (none, n)
  else (none, a)
theorem p_tail_pos {sg : Nat → Nat} {len k f m : Nat} {below : Bool} (hz : ∀ j, sg j ≠ 0 → j < len) (ha : m ≤ len) : m ≤ (p_tail sg k f below m).2 ∧ (p_tail sg k f below m).2 ≤ len ∧ ∀ r, (p_tail sg k f below m).1 = some r → m + 1 ≤ (p_tail sg k f below m).2 ∧ r.1 = k ∧ r.2.1 = f ∧ ∃ s, s ≤ p_most k ∧ ((below = false ∧ r.2.2 = nI s) ∨ (below = true ∧ r.2.2 = -(nI s))) := by
  have key := p_num_pos (l := if below then 1 else 0) (m := p_most k) hz ha
  unfold p_tail
  rcases e : p_num sg (if below then 1 else 0) (p_most k) m with ⟨_ | s, z⟩
  · rw [e] at key
    exact ⟨key.1, key.2.1, fun _ z => by cases z⟩
  · rw [e] at key
    refine ⟨key.1, key.2.1, fun r z => ?_⟩
    have z2 := Option.some.inj z
    subst z2
    refine ⟨(key.2.2 s rfl).1, rfl, rfl, s, (key.2.2 s rfl).2.1, ?_⟩
    cases below
    · exact Or.inl ⟨rfl, rfl⟩
    · exact Or.inr ⟨rfl, rfl⟩
def x_add (X : c_Tx) (k f : Nat) (s : Int32) : c_Tx := x_mk (x_signs X) (x_len X) (x_next X) ((x_kinds X).set (x_many X) k) ((x_firsts X).set (x_many X) f) ((x_seconds X).set (x_many X) s) (x_many X + 1)
def x_after (X : c_Tx) (r : Option (Nat × Nat × Int32) × Nat) : c_Tx := match r with
  | (none, n) => x_at X n
  | (some (k, f, s), n) => x_add (x_at X n) k f s
theorem c_addChange {d : Nat} {q k f : Nat} {X : c_Tx} {x y s : Int32} {h : m_Hp} (H : Htx h q X) (ok : Okx X) (hm : x_many X < 12) (hx : x = nI k) (hk : k < 65536) (hy : y = nI f) : ∃ r h', m_Call m_P (d + 1) 45 [.ref q, .int x, .int y, .int s] (h) r h' ∧ (fun r h2 => r = none ∧ Htx h2 q (x_add X k f s) ∧ Chg q (q + 5) h h2) r h' := by
  refine m_call_ex (tab := tX4_addChange) (nL := 4) rfl rfl ?_
  subst hx hy
  obtain ⟨k1, k2, k3, k4, k5, k6, k7, k8, k9⟩ := id ok
  have hq := H.1
  refine m_E.run 1 (pc1 := 1) (ls1 := [some _, some _, some _, some _]) (st1 := [_]) rfl ?_
  refine m_E.gf H.2.1 H.1 rfl rfl ?_
  refine m_E.iff (by rw [show (0 : Int32) = nI 0 from rfl]; exact (m_ltI (by omega) (by omega)).trans (decide_eq_false (by omega))) rfl ?_
  refine m_E.run 1 (pc1 := 8) (ls1 := [some _, some _, some _, some _]) (st1 := [_]) rfl ?_
  refine m_E.gf H.2.1 H.1 rfl rfl ?_
  refine m_E.run 1 (pc1 := 13) (ls1 := [some _, some _, some _, some _]) (st1 := [_, _]) rfl ?_
  refine m_E.icf ((m_leI (by omega) (by omega)).trans (decide_eq_false (by omega))) rfl ?_
  refine m_E.run 1 (pc1 := 17) (ls1 := [some _, some _, some _, some _]) (st1 := [_]) rfl ?_
  refine m_E.gf H.2.1 H.1 rfl rfl ?_
  refine m_E.run 1 (pc1 := 21) (ls1 := [some _, some _, some _, some _]) (st1 := [_, _]) rfl ?_
  refine m_E.gf H.2.1 H.1 rfl rfl ?_
  refine m_E.run 1 (pc1 := 25) (ls1 := [some _, some _, some _, some _]) (st1 := [_, _, _]) rfl ?_
  refine m_E.ig H.2.2.2.1 (by omega) rfl (by rw [List.length_map]; omega) (by rw [List.length_map]; omega) rfl (fun h1 u1 => ?_)
  rw [m_chr2 hk, m_map_set] at u1
  refine m_E.run 1 (pc1 := 27) (ls1 := [some _, some _, some _, some _]) (st1 := [_]) rfl ?_
  refine m_E.gf ((u1.2.2 q (by omega)).trans H.2.1) H.1 rfl rfl ?_
  refine m_E.run 1 (pc1 := 31) (ls1 := [some _, some _, some _, some _]) (st1 := [_, _]) rfl ?_
  refine m_E.gf ((u1.2.2 q (by omega)).trans H.2.1) H.1 rfl rfl ?_
  refine m_E.run 1 (pc1 := 35) (ls1 := [some _, some _, some _, some _]) (st1 := [_, _, _]) rfl ?_
  refine m_E.ig ((u1.2.2 (q + 3) (by omega)).trans H.2.2.2.2.1) (by omega) rfl (by rw [List.length_map]; omega) (by rw [List.length_map]; omega) rfl (fun h2 u2 => ?_)
  rw [m_map_set] at u2
  refine m_E.run 1 (pc1 := 37) (ls1 := [some _, some _, some _, some _]) (st1 := [_]) rfl ?_
  refine m_E.gf ((u2.2.2 q (by omega)).trans ((u1.2.2 q (by omega)).trans H.2.1)) H.1 rfl rfl ?_
  refine m_E.run 1 (pc1 := 41) (ls1 := [some _, some _, some _, some _]) (st1 := [_, _]) rfl ?_
  refine m_E.gf ((u2.2.2 q (by omega)).trans ((u1.2.2 q (by omega)).trans H.2.1)) H.1 rfl rfl ?_
  refine m_E.run 1 (pc1 := 45) (ls1 := [some _, some _, some _, some _]) (st1 := [_, _, _]) rfl ?_
  refine m_E.ig ((u2.2.2 (q + 4) (by omega)).trans ((u1.2.2 (q + 4) (by omega)).trans H.2.2.2.2.2)) (by omega) rfl (by omega) (by omega) rfl (fun h3 u3 => ?_)
  have H3 : Htx h3 q (x_rows X ((x_kinds X).set (x_many X) k) ((x_firsts X).set (x_many X) f) ((x_seconds X).set (x_many X) s)) := ⟨hq, (u3.2.2 q (by omega)).trans ((u2.2.2 q (by omega)).trans ((u1.2.2 q (by omega)).trans H.2.1)), (u3.2.2 (q + 1) (by omega)).trans ((u2.2.2 (q + 1) (by omega)).trans ((u1.2.2 (q + 1) (by omega)).trans H.2.2.1)), (u3.2.2 (q + 2) (by omega)).trans ((u2.2.2 (q + 2) (by omega)).trans u1.2.1), (u3.2.2 (q + 3) (by omega)).trans u2.2.1, u3.2.1⟩
  have c3 : Chg q (q + 5) h h3 := (u1.chg (by omega) (by omega)).tr ((u2.chg (by omega) (by omega)).tr (u3.chg (by omega) (by omega)))
  refine m_E.run 2 (pc1 := 48) (ls1 := [some _, some _, some _, some _]) (st1 := [_, _]) rfl ?_
  refine m_E.gf H3.2.1 H.1 rfl rfl ?_
  refine m_E.run 2 (pc1 := 53) (ls1 := [some _, some _, some _, some _]) (st1 := [_, _]) rfl ?_
  dsimp only
  change m_E _ _ _ _ (.int (nI (x_many X) + nI 1) :: _) _ _
  rw [nI_add]
  refine H3.p6 rfl rfl (fun h4 H4 c4 => ?_)
  exact m_E.vret rfl ⟨rfl, H4, c3.tr c4⟩
theorem c_mostBehind {d : Nat} {k : Nat} {x : Int32} {h : m_Hp} (hx : x = nI k) (hk : k < 65536) : m_Call m_P (d + 1) 44 [.int x] (h) (some (.int (nI (p_most k)))) (h) := by
  refine m_call_of (tab := tX4_mostBehind) (nL := 1) rfl rfl ?_
  subst hx
  refine m_E.run 2 (pc1 := 3) (ls1 := [some _]) (st1 := [_, _]) rfl ?_
  refine m_E.ic2 rfl (fun q1 => ?_) (fun q1 => ?_)
  · skip
    have e := of_decide_eq_true ((m_neI (by omega) (by omega)).symm.trans q1)
    refine m_E.run 2 (pc1 := 12) (ls1 := [some _]) (st1 := [_, _]) rfl ?_
    refine m_E.ic2 rfl (fun q2 => ?_) (fun q2 => ?_)
    · skip
      have e2 := of_decide_eq_true ((m_neI (by omega) (by omega)).symm.trans q2)
      refine m_E.run 1 (pc1 := 21) (ls1 := [some _]) (st1 := [_]) rfl ?_
      exact m_E.iret rfl ⟨by rw [p_most, if_neg e, if_neg e2], rfl⟩
    · skip
      have e2 := Decidable.not_not.mp (of_decide_eq_false ((m_neI (by omega) (by omega)).symm.trans q2))
      refine m_E.run 2 (pc1 := 21) (ls1 := [some _]) (st1 := [_]) rfl ?_
      exact m_E.iret rfl ⟨by rw [p_most, if_neg e, if_pos e2], rfl⟩
  · skip
    have e := Decidable.not_not.mp (of_decide_eq_false ((m_neI (by omega) (by omega)).symm.trans q1))
    refine m_E.run 1 (pc1 := 8) (ls1 := [some _]) (st1 := [_]) rfl ?_
    exact m_E.iret rfl ⟨by rw [p_most, if_pos e], rfl⟩
theorem c_readChange {d : Nat} {q : Nat} {X : c_Tx} {h : m_Hp} (H : Htx h q X) (ok : Okx X) (hl : x_next X ≤ x_len X) (hm : 5 * x_many X ≤ x_next X) : ∃ r h', m_Call m_P (d + 4) 43 [.ref q] (h) r h' ∧ (fun r h2 => r = some (.int (m_bI (p_change (x_sg X) (x_next X)).1.isSome)) ∧ Htx h2 q (x_after X (p_change (x_sg X) (x_next X))) ∧ Chg q (q + 5) h h2) r h' := by
  refine m_call_ex (tab := tX4_readChange) (nL := 5) rfl rfl ?_
  have k3 := ok.2.2.1
  have hz : ∀ j, x_sg X j ≠ 0 → j < x_len X := fun j => x_sg_pos
  have hs := x_sg_lt ok (x_next X)
  refine m_E.run 1 (pc1 := 1) (ls1 := [some _, none, none, none, none]) (st1 := [_]) rfl ?_
  refine m_E.ov H.2.1 H.1 rfl rfl rfl (c_nextSign H ok) ?_
  generalize hk : x_sg X (x_next X) = k at hs ⊢
  refine m_E.run 1 (pc1 := 5) (ls1 := [some _, some _, none, none, none]) (st1 := []) rfl ?_
  have fin : (k = 115 ∨ k = 109 ∨ k = 117 ∨ k = 108) → m_E (m_Call m_P (d + 3)) tX4_readChange 31 [some (.ref q), some (.int (nI k)), none, none, none] [] h (fun r h2 => r = some (.int (m_bI (p_change (x_sg X) (x_next X)).1.isSome)) ∧ Htx h2 q (x_after X (p_change (x_sg X) (x_next X))) ∧ Chg q (q + 5) h h2) := by
    intro hkk
    have hk0 : x_sg X (x_next X) ≠ 0 := by omega
    have hn := x_sg_pos hk0
    refine m_E.run 2 (pc1 := 33) (ls1 := [some _, some _, none, none, none]) (st1 := [_, _]) rfl ?_
    refine m_E.gf H.2.1 H.1 rfl rfl ?_
    refine m_E.run 2 (pc1 := 38) (ls1 := [some _, some _, none, none, none]) (st1 := [_, _]) rfl ?_
    dsimp only
    change m_E _ _ _ _ (.int (nI (x_next X) + nI 1) :: _) _ _
    rw [nI_add]
    refine H.p2 rfl rfl (fun h1 H1 c1 => ?_)
    have ok1 : Okx (x_at X (x_next X + 1)) := ok.at (by omega)
    refine m_E.run 3 (pc1 := 45) (ls1 := [some _, some _, none, none, none]) (st1 := [_, _, _]) rfl ?_
    obtain ⟨_, h2, p1, rfl, H2, c2⟩ := c_readNumber (d := d) H1 ok1 (rfl : nI 0 = nI 0) (rfl : nI 23 = nI 23) (by decide) (by decide)
    change Htx h2 q (x_at X (p_num (x_sg X) 0 23 (x_next X + 1)).2) at H2
    have pp := p_num_pos (l := 0) (m := 23) hz (show x_next X + 1 ≤ x_len X by omega)
    refine m_E.ov H1.2.1 H1.1 rfl rfl rfl (p1) ?_
    change m_E _ _ _ _ (.int (p_oI (p_num (x_sg X) 0 23 (x_next X + 1)).1) :: _) _ _
    replace c2 := c1.tr c2
    rcases en : p_num (x_sg X) 0 23 (x_next X + 1) with ⟨_ | f, n⟩
    · skip
      rw [en] at H2
      have ep : p_change (x_sg X) (x_next X) = (none, n) := by rw [p_change, if_pos (by omega), en]
      rw [ep]
      refine m_E.run 3 (pc1 := 52) (ls1 := [some _, some _, some _, none, none]) (st1 := [_, _]) rfl ?_
      refine m_E.ict (rfl) rfl ?_
      refine m_E.run 1 (pc1 := 76) (ls1 := [some _, some _, some _, none, none]) (st1 := [_]) rfl ?_
      exact m_E.zret (by decide) rfl ⟨rfl, H2, c2⟩
    · skip
      rw [en] at H2 pp
      obtain ⟨pn1, pn2, pn3⟩ := pp
      obtain ⟨pn4, pn5, _⟩ := pn3 f rfl
      dsimp only at pn1 pn2 pn4 H2
      change m_E _ _ _ _ (.int (nI f) :: _) _ _
      have ok2 : Okx (x_at X n) := ok.at (by omega)
      refine m_E.run 3 (pc1 := 52) (ls1 := [some _, some _, some _, none, none]) (st1 := [_, _]) rfl ?_
      refine m_E.icf (m_n5 (by omega)) rfl ?_
      have bad : p_change (x_sg X) (x_next X) = (none, n) → ∀ h3, Htx h3 q (x_at X n) → Chg q (q + 5) h h3 → m_E (m_Call m_P (d + 3)) tX4_readChange 75 [some (.ref q), some (.int (nI k)), some (.int (nI f)), none, none] [] h3 (fun r h2 => r = some (.int (m_bI (p_change (x_sg X) (x_next X)).1.isSome)) ∧ Htx h2 q (x_after X (p_change (x_sg X) (x_next X))) ∧ Chg q (q + 5) h h2) := by
        intro ep h3 H3 c3
        rw [ep]
        refine m_E.run 1 (pc1 := 76) (ls1 := [some _, some _, some _, none, none]) (st1 := [_]) rfl ?_
        exact m_E.zret (by decide) rfl ⟨rfl, H3, c3⟩
      have tail : ∀ (below : Bool) m, p_change (x_sg X) (x_next X) = p_tail (x_sg X) k f below m → m ≤ x_len X → n + 1 ≤ m → ∀ h3, Htx h3 q (x_at X m) → Chg q (q + 5) h h3 → m_E (m_Call m_P (d + 3)) tX4_readChange 97 [some (.ref q), some (.int (nI k)), some (.int (nI f)), none, none] [.int (m_bI below)] h3 (fun r h2 => r = some (.int (m_bI (p_change (x_sg X) (x_next X)).1.isSome)) ∧ Htx h2 q (x_after X (p_change (x_sg X) (x_next X))) ∧ Chg q (q + 5) h h2) := by
        intro below m ep hml hnm h3 H3 c3
        rw [ep]
        have ok3 : Okx (x_at X m) := ok.at (by omega)
        refine m_E.run 3 (pc1 := 100) (ls1 := [some _, some _, some _, some _, none]) (st1 := [_, _]) rfl ?_
        have num : m_E (m_Call m_P (d + 3)) tX4_readChange 108 [some (.ref q), some (.int (nI k)), some (.int (nI f)), some (.int (m_bI below)), none] [.int (nI (if below then 1 else 0)), .ref q] h3 (fun r h2 => r = some (.int (m_bI (p_tail (x_sg X) k f below m).1.isSome)) ∧ Htx h2 q (x_after X (p_tail (x_sg X) k f below m)) ∧ Chg q (q + 5) h h2) := by
          refine m_E.run 1 (pc1 := 109) (ls1 := [some _, some _, some _, some _, none]) (st1 := [_, _, _]) rfl ?_
          refine m_E.cv rfl rfl (c_mostBehind rfl hs) ?_
          have hmo : p_most k < 100 := by rw [p_most]; split; decide; split <;> decide
          obtain ⟨_, h4, p4, rfl, H4, c4⟩ := c_readNumber (d := d) H3 ok3 (rfl : nI (if below then 1 else 0) = nI (if below then 1 else 0)) (rfl : nI (p_most k) = nI (p_most k)) (by split <;> decide) hmo
          change Htx h4 q (x_at X (p_num (x_sg X) (if below then 1 else 0) (p_most k) m).2) at H4
          have pp := p_num_pos (l := if below then 1 else 0) (m := p_most k) hz hml
          refine m_E.ov H3.2.1 H3.1 rfl rfl rfl (p4) ?_
          change m_E _ _ _ _ (.int (p_oI (p_num (x_sg X) (if below then 1 else 0) (p_most k) m).1) :: _) _ _
          replace c4 := c3.tr c4
          rcases em : p_num (x_sg X) (if below then 1 else 0) (p_most k) m with ⟨_ | s, z⟩
          · skip
            rw [em] at H4
            have et : p_tail (x_sg X) k f below m = (none, z) := by rw [p_tail, em]
            rw [et]
            refine m_E.run 3 (pc1 := 121) (ls1 := [some _, some _, some _, some _, some _]) (st1 := [_, _]) rfl ?_
            refine m_E.icf (rfl) rfl ?_
            refine m_E.run 1 (pc1 := 125) (ls1 := [some _, some _, some _, some _, some _]) (st1 := [_]) rfl ?_
            exact m_E.zret (by decide) rfl ⟨rfl, H4, c4⟩
          · skip
            rw [em] at H4 pp
            obtain ⟨pm1, pm2, pm3⟩ := pp
            obtain ⟨pm4, pm5, _⟩ := pm3 s rfl
            dsimp only at pm1 pm2 pm4 H4
            have ok4 : Okx (x_at X z) := ok.at (by omega)
            have et : p_tail (x_sg X) k f below m = (some (k, f, if below then -(nI s) else nI s), z) := by rw [p_tail, em]
            rw [et]
            change m_E _ _ _ _ (.int (nI s) :: _) _ _
            refine m_E.run 3 (pc1 := 121) (ls1 := [some _, some _, some _, some _, some _]) (st1 := [_, _]) rfl ?_
            refine m_E.ict (by rw [m_n5 (by omega)]; rfl) rfl ?_
            refine m_E.run 4 (pc1 := 130) (ls1 := [some _, some _, some _, some _, some _]) (st1 := [_, _, _, _]) rfl ?_
            have add : m_E (m_Call m_P (d + 3)) tX4_readChange 141 [some (.ref q), some (.int (nI k)), some (.int (nI f)), some (.int (m_bI below)), some (.int (nI s))] [.int (if below then -(nI s) else nI s), .int (nI f), .int (nI k), .ref q] h4 (fun r h2 => r = some (.int (m_bI ((some (k, f, if below then -(nI s) else nI s), z) : Option (Nat × Nat × Int32) × Nat).1.isSome)) ∧ Htx h2 q (x_after X (some (k, f, if below then -(nI s) else nI s), z)) ∧ Chg q (q + 5) h h2) := by
              obtain ⟨_, h5, p5, rfl, H5, c5⟩ := c_addChange (d := d + 2) (s := if below then -(nI s) else nI s) H4 ok4 (show x_many X < 12 by omega) (rfl : nI k = nI k) hs (rfl : nI f = nI f)
              refine m_E.on H4.2.1 H4.1 rfl rfl rfl (p5) ?_
              refine m_E.run 1 (pc1 := 145) (ls1 := [some _, some _, some _, some _, some _]) (st1 := [_]) rfl ?_
              exact m_E.zret (by decide) rfl ⟨rfl, H5, c4.tr c5⟩
            cases below
            · skip
              refine m_E.ift (rfl) rfl ?_
              refine m_E.run 1 (pc1 := 141) (ls1 := [some _, some _, some _, some _, some _]) (st1 := [_, _, _, _]) rfl ?_
              exact add
            · skip
              refine m_E.iff (rfl) rfl ?_
              refine m_E.run 3 (pc1 := 141) (ls1 := [some _, some _, some _, some _, some _]) (st1 := [_, _, _, _]) rfl ?_
              dsimp only
              exact add
        cases below
        · skip
          refine m_E.ift (rfl) rfl ?_
          refine m_E.run 1 (pc1 := 108) (ls1 := [some _, some _, some _, some _, none]) (st1 := [_, _]) rfl ?_
          exact num
        · skip
          refine m_E.iff (rfl) rfl ?_
          refine m_E.run 2 (pc1 := 108) (ls1 := [some _, some _, some _, some _, none]) (st1 := [_, _]) rfl ?_
          exact num
      refine m_E.run 3 (pc1 := 59) (ls1 := [some _, some _, some _, none, none]) (st1 := [_, _, _]) rfl ?_
      have sep : ∀ c, c = (if k = 115 then 47 else 61) → m_E (m_Call m_P (d + 3)) tX4_readChange 69 [some (.ref q), some (.int (nI k)), some (.int (nI f)), none, none] [.int (nI c), .ref q] h2 (fun r h2 => r = some (.int (m_bI (p_change (x_sg X) (x_next X)).1.isSome)) ∧ Htx h2 q (x_after X (p_change (x_sg X) (x_next X))) ∧ Chg q (q + 5) h h2) := by
        intro c ec
        have hc : c < 65536 ∧ c ≠ 0 := by rw [ec]; split <;> decide
        obtain ⟨_, h3, p3, rfl, H3, c3⟩ := c_take (d := d + 1) H2 ok2 (rfl : nI c = nI c) hc.1
        change Htx h3 q (x_at X (if x_sg X n = c then n + 1 else n)) at H3
        replace c3 := c2.tr c3
        refine m_E.ov H2.2.1 H2.1 rfl rfl rfl (p3) ?_
        change m_E _ _ _ _ (.int (m_bI (decide (x_sg X n = c))) :: _) _ _
        by_cases es : x_sg X n = c
        · skip
          rw [if_pos es] at H3
          rw [decide_eq_true es]
          have hn2 := x_sg_pos (show x_sg X n ≠ 0 by omega)
          have ok3 : Okx (x_at X (n + 1)) := ok.at (by omega)
          refine m_E.ift (rfl) rfl ?_
          refine m_E.run 2 (pc1 := 80) (ls1 := [some _, some _, some _, none, none]) (st1 := [_, _]) rfl ?_
          by_cases el : k = 108
          · skip
            refine m_E.icf (by rw [el]; rfl) rfl ?_
            refine m_E.run 2 (pc1 := 86) (ls1 := [some _, some _, some _, none, none]) (st1 := [_, _]) rfl ?_
            obtain ⟨_, h4, p4, rfl, H4, c4⟩ := c_take (d := d + 1) H3 ok3 (rfl : nI 45 = nI 45) (by decide)
            change Htx h4 q (x_at X (if x_sg X (n + 1) = 45 then n + 1 + 1 else n + 1)) at H4
            replace c4 := c3.tr c4
            refine m_E.ov H3.2.1 H3.1 rfl rfl rfl (p4) ?_
            change m_E _ _ _ _ (.int (m_bI (decide (x_sg X (n + 1) = 45))) :: _) _ _
            by_cases eb : x_sg X (n + 1) = 45
            · skip
              rw [if_pos eb] at H4
              rw [decide_eq_true eb]
              have hn3 := x_sg_pos (show x_sg X (n + 1) ≠ 0 by omega)
              refine m_E.iff (rfl) rfl ?_
              refine m_E.run 2 (pc1 := 97) (ls1 := [some _, some _, some _, none, none]) (st1 := [_]) rfl ?_
              exact tail true (n + 2) (by rw [p_change, if_pos (by omega), en]; dsimp only; rw [hk, if_pos (by rw [es, ec]), if_pos ⟨el, eb⟩]) (by omega) (by omega) _ H4 c4
            · skip
              rw [if_neg eb] at H4
              rw [decide_eq_false eb]
              refine m_E.ift (rfl) rfl ?_
              refine m_E.run 1 (pc1 := 97) (ls1 := [some _, some _, some _, none, none]) (st1 := [_]) rfl ?_
              exact tail false (n + 1) (by rw [p_change, if_pos (by omega), en]; dsimp only; rw [hk, if_pos (by rw [es, ec]), if_neg (fun z => eb z.2)]) (by omega) (by omega) _ H4 c4
          · skip
            refine m_E.ict (by rw [m_neI (by omega) (by omega)]; exact decide_eq_true el) rfl ?_
            refine m_E.run 1 (pc1 := 97) (ls1 := [some _, some _, some _, none, none]) (st1 := [_]) rfl ?_
            exact tail false (n + 1) (by rw [p_change, if_pos (by omega), en]; dsimp only; rw [hk, if_pos (by rw [es, ec]), if_neg (fun z => el z.1)]) (by omega) (by omega) _ H3 c3
        · skip
          rw [if_neg es] at H3
          rw [decide_eq_false es]
          refine m_E.iff (rfl) rfl ?_
          exact bad (by rw [p_change, if_pos (by omega), en]; dsimp only; rw [hk, if_neg (by rw [← ec]; exact es)]) _ H3 c3
      by_cases e115 : k = 115
      · skip
        refine m_E.icf (by rw [e115]; rfl) rfl ?_
        refine m_E.run 2 (pc1 := 69) (ls1 := [some _, some _, some _, none, none]) (st1 := [_, _]) rfl ?_
        exact sep 47 (by rw [if_pos e115])
      · skip
        refine m_E.ict (by rw [m_neI (by omega) (by omega)]; exact decide_eq_true e115) rfl ?_
        refine m_E.run 1 (pc1 := 69) (ls1 := [some _, some _, some _, none, none]) (st1 := [_, _]) rfl ?_
        exact sep 61 (by rw [if_neg e115])
  refine m_E.run 2 (pc1 := 8) (ls1 := [some _, some _, none, none, none]) (st1 := [_, _]) rfl ?_
  by_cases e1 : k = 115
  · skip
    refine m_E.ict (by rw [e1]; rfl) rfl ?_
    exact fin (by omega)
  · skip
    refine m_E.icf (by rw [m_beqI (by omega) (by omega)]; exact decide_eq_false e1) rfl ?_
    refine m_E.run 2 (pc1 := 14) (ls1 := [some _, some _, none, none, none]) (st1 := [_, _]) rfl ?_
    by_cases e2 : k = 109
    · skip
      refine m_E.ict (by rw [e2]; rfl) rfl ?_
      exact fin (by omega)
    · skip
      refine m_E.icf (by rw [m_beqI (by omega) (by omega)]; exact decide_eq_false e2) rfl ?_
      refine m_E.run 2 (pc1 := 20) (ls1 := [some _, some _, none, none, none]) (st1 := [_, _]) rfl ?_
      by_cases e3 : k = 117
      · skip
        refine m_E.ict (by rw [e3]; rfl) rfl ?_
        exact fin (by omega)
      · skip
        refine m_E.icf (by rw [m_beqI (by omega) (by omega)]; exact decide_eq_false e3) rfl ?_
        refine m_E.run 2 (pc1 := 26) (ls1 := [some _, some _, none, none, none]) (st1 := [_, _]) rfl ?_
        by_cases e4 : k = 108
        · skip
          refine m_E.ict (by rw [e4]; rfl) rfl ?_
          exact fin (by omega)
        · skip
          refine m_E.icf (by rw [m_beqI (by omega) (by omega)]; exact decide_eq_false e4) rfl ?_
          have ep : p_change (x_sg X) (x_next X) = (none, x_next X) := by rw [p_change, if_neg (by omega)]
          rw [ep]
          refine m_E.run 1 (pc1 := 30) (ls1 := [some _, some _, none, none, none]) (st1 := [_]) rfl ?_
          exact m_E.zret (by decide) rfl ⟨rfl, H, Chg.rf⟩
