/-! typing; what a text's changes are; rounds of shuffles -/
theorem c_append {d : Nat} {q c : Nat} {X : c_Tx} {x : Int32} {h : m_Hp} (H : Htx h q X) (ok : Okx X) (hl : x_len X < 60) (hx : x = nI c) (hc : c < 65536) : ∃ r h', m_Call m_P (d + 1) 39 [.ref q, .int x] (h) r h' ∧ (fun r h2 => r = none ∧ Htx h2 q (x_setLen (x_setSigns X ((x_signs X).set (x_len X) c)) (x_len X + 1)) ∧ Chg q (q + 5) h h2) r h' := by
  refine m_call_ex (tab := tX4_append) (nL := 2) rfl rfl ?_
  subst hx
  obtain ⟨k1, k2, k3, k4, k5, k6, k7, k8, k9⟩ := id ok
  have hq := H.1
  refine m_E.run 1 (pc1 := 1) (ls1 := [some _, some _]) (st1 := [_]) rfl ?_
  refine m_E.gf H.2.1 H.1 rfl rfl ?_
  refine m_E.iff (by rw [show (0 : Int32) = nI 0 from rfl]; exact (m_ltI (by omega) (by omega)).trans (decide_eq_false (by omega))) rfl ?_
  refine m_E.run 1 (pc1 := 8) (ls1 := [some _, some _]) (st1 := [_]) rfl ?_
  refine m_E.gf H.2.1 H.1 rfl rfl ?_
  refine m_E.run 1 (pc1 := 13) (ls1 := [some _, some _]) (st1 := [_, _]) rfl ?_
  refine m_E.icf ((m_leI (by omega) (by omega)).trans (decide_eq_false (by omega))) rfl ?_
  refine m_E.run 1 (pc1 := 17) (ls1 := [some _, some _]) (st1 := [_]) rfl ?_
  refine m_E.gf H.2.1 H.1 rfl rfl ?_
  refine m_E.run 1 (pc1 := 21) (ls1 := [some _, some _]) (st1 := [_, _]) rfl ?_
  refine m_E.gf H.2.1 H.1 rfl rfl ?_
  refine m_E.run 1 (pc1 := 25) (ls1 := [some _, some _]) (st1 := [_, _, _]) rfl ?_
  refine m_E.ig H.2.2.1 (by omega) rfl (by rw [List.length_map]; omega) (by rw [List.length_map]; omega) rfl (fun h1 u1 => ?_)
  rw [m_chr2 hc, m_map_set] at u1
  have H1 : Htx h1 q (x_setSigns X ((x_signs X).set (x_len X) c)) := ⟨hq, (u1.2.2 q (by omega)).trans H.2.1, u1.2.1, (u1.2.2 (q + 2) (by omega)).trans H.2.2.2.1, (u1.2.2 (q + 3) (by omega)).trans H.2.2.2.2.1, (u1.2.2 (q + 4) (by omega)).trans H.2.2.2.2.2⟩
  refine m_E.run 2 (pc1 := 28) (ls1 := [some _, some _]) (st1 := [_, _]) rfl ?_
  refine m_E.gf H1.2.1 H.1 rfl rfl ?_
  refine m_E.run 2 (pc1 := 33) (ls1 := [some _, some _]) (st1 := [_, _]) rfl ?_
  dsimp only
  change m_E _ _ _ _ (.int (nI (x_len X) + nI 1) :: _) _ _
  rw [nI_add]
  refine H1.p1 rfl rfl (fun h2 H2 c2 => ?_)
  exact m_E.vret rfl ⟨rfl, H2, (u1.chg (by omega) (by omega)).tr c2⟩
theorem c_kindOf {d : Nat} {q j : Nat} {X : c_Tx} {x : Int32} {h : m_Hp} (H : Htx h q X) (ok : Okx X) (hx : x = nI j) (hj : j < 12) : m_Call m_P (d + 1) 40 [.ref q, .int x] (h) (some (.int (nI ((x_kinds X).getD j 0)))) (h) := by
  refine m_call_of (tab := tX4_kindOf) (nL := 2) rfl rfl ?_
  subst hx
  obtain ⟨k1, k2, k3, k4, k5, k6, k7, k8, k9⟩ := id ok
  refine m_E.run 1 (pc1 := 1) (ls1 := [some _, some _]) (st1 := [_]) rfl ?_
  refine m_E.iff (by rw [show (0 : Int32) = nI 0 from rfl]; exact (m_ltI (by omega) (by omega)).trans (decide_eq_false (by omega))) rfl ?_
  refine m_E.run 2 (pc1 := 7) (ls1 := [some _, some _]) (st1 := [_, _]) rfl ?_
  refine m_E.icf ((m_leI (by omega) (by omega)).trans (decide_eq_false (by omega))) rfl ?_
  refine m_E.run 1 (pc1 := 11) (ls1 := [some _, some _]) (st1 := [_]) rfl ?_
  refine m_E.gf H.2.1 H.1 rfl rfl ?_
  refine m_E.run 1 (pc1 := 15) (ls1 := [some _, some _]) (st1 := [_, _]) rfl ?_
  refine m_E.ild H.2.2.2.1 (Or.inr (by have := H.1; omega)) rfl (by rw [List.length_map]; omega) (by rw [List.length_map]; omega) rfl ?_
  rw [m_mapD]
  refine m_E.run 1 (pc1 := 20) (ls1 := [some _, some _]) (st1 := [_]) rfl ?_
  exact m_E.zret (m_chr (g_getD_lt k6 (by omega))) rfl ⟨rfl, rfl⟩
/-- a change that leans another card than a court -/
def p_bad (r : Nat × Nat × Int32) : Bool := decide (r.1 = 108 ∧ ¬ 3 ≤ r.2.1 % 6)
theorem x_list_get {X : c_Tx} {j : Nat} (hj : j < x_many X) : (x_list X)[j]? = some ((x_kinds X).getD j 0, (x_firsts X).getD j 0, (x_seconds X).getD j 0) := by
  rw [x_list, List.getElem?_map, List.getElem?_range hj]; rfl
theorem x_list_len (X : c_Tx) : (x_list X).length = x_many X := by rw [x_list, List.length_map, List.length_range]
theorem x_list_mem {X : c_Tx} {j : Nat} (hj : j < x_many X) : ((x_kinds X).getD j 0, (x_firsts X).getD j 0, (x_seconds X).getD j 0) ∈ x_list X := by
  rw [x_list, List.mem_map]; exact ⟨j, List.mem_range.mpr hj, rfl⟩
theorem c_leansAnother {d : Nat} {q : Nat} {X : c_Tx} {h : m_Hp} (H : Htx h q X) (ok : Okx X) (hf : ∀ r, r ∈ x_list X → r.2.1 < 24) : m_Call m_P (d + 2) 42 [.ref q] (h) (some (.int (m_bI ((x_list X).any p_bad)))) (h) := by
  refine m_call_of (tab := tX4_leansAnotherThanCourts) (nL := 2) rfl rfl ?_
  obtain ⟨k1, k2, k3, k4, k5, k6, k7, k8, k9⟩ := id ok
  refine m_E.run 2 (pc1 := 2) (ls1 := [some _, some _]) (st1 := []) rfl ?_
  refine m_E.up (fun i => (2, [some (.ref q), some (.int (nI i))], [], h)) (x_many X) (fun i => (∀ j, j < i → p_bad ((x_kinds X).getD j 0, (x_firsts X).getD j 0, (x_seconds X).getD j 0) = false)) (fun i hi hI K => ?_) ?_ (fun hI => ?_)
  · skip
    show m_E _ _ 2 [some (.ref q), some (.int (nI i))] [] (h) _
    have hm := x_list_mem hi
    have hf1 := hf _ hm
    dsimp only at hf1
    have hk1 : (x_kinds X).getD i 0 < 65536 := g_getD_lt k6 (by omega)
    refine m_E.run 2 (pc1 := 4) (ls1 := [some _, some _]) (st1 := [_, _]) rfl ?_
    refine m_E.gf H.2.1 H.1 rfl rfl ?_
    refine m_E.icf ((m_leI (by omega) (by omega)).trans (decide_eq_false (by omega))) rfl ?_
    refine m_E.run 2 (pc1 := 12) (ls1 := [some _, some _]) (st1 := [_, _]) rfl ?_
    refine m_E.ov H.2.1 H.1 rfl rfl rfl (c_kindOf H ok rfl (by omega)) ?_
    refine m_E.run 1 (pc1 := 17) (ls1 := [some _, some _]) (st1 := [_, _]) rfl ?_
    have next : p_bad ((x_kinds X).getD i 0, (x_firsts X).getD i 0, (x_seconds X).getD i 0) = false → m_E (m_Call m_P (d + 1)) tX4_leansAnotherThanCourts 36 [some (.ref q), some (.int (nI i))] [] h (fun r2 h2 => r2 = some (.int (m_bI ((x_list X).any p_bad))) ∧ h2 = h) := by
      intro hb
      refine m_E.run 2 (pc1 := 2) (ls1 := [some _, some _]) (st1 := []) rfl ?_
      rw [nI_add]
      refine K (fun j hj => ?_)
      by_cases e : j = i
      · rw [e]; exact hb
      · exact hI j (by omega)
    by_cases ek : (x_kinds X).getD i 0 = 108
    · skip
      refine m_E.icf (by rw [ek]; rfl) rfl ?_
      refine m_E.run 1 (pc1 := 21) (ls1 := [some _, some _]) (st1 := [_]) rfl ?_
      refine m_E.gf H.2.1 H.1 rfl rfl ?_
      refine m_E.run 1 (pc1 := 25) (ls1 := [some _, some _]) (st1 := [_, _]) rfl ?_
      refine m_E.cv rfl rfl (c_at H.2.2.2.2.1 rfl (by rw [List.length_map]; omega) (by rw [List.length_map]; omega)) ?_
      rw [m_mapD]
      refine m_E.cv rfl rfl (c_isCourt rfl hf1) ?_
      by_cases ec : 3 ≤ (x_firsts X).getD i 0 % 6
      · skip
        rw [decide_eq_true ec]
        refine m_E.ift (rfl) rfl ?_
        exact next (decide_eq_false (fun z => z.2 ec))
      · skip
        rw [decide_eq_false ec]
        refine m_E.iff (rfl) rfl ?_
        refine m_E.run 1 (pc1 := 35) (ls1 := [some _, some _]) (st1 := [_]) rfl ?_
        exact m_E.zret (by decide) rfl ⟨by rw [List.any_eq_true.mpr ⟨_, hm, decide_eq_true ⟨ek, ec⟩⟩]; rfl, rfl⟩
    · skip
      refine m_E.ict ((m_neI (by omega) (by omega)).trans (decide_eq_true ek)) rfl ?_
      exact next (decide_eq_false (fun z => ek z.1))
  · skip
    exact fun j hj => absurd hj (Nat.not_lt_zero _)
  · skip
    show m_E _ _ 2 ((fun i => [some (.ref q), some (.int (nI i))]) ((x_many X))) [] ((fun i => h) ((x_many X))) _
    dsimp only
    refine m_E.run 2 (pc1 := 4) (ls1 := [some _, some _]) (st1 := [_, _]) rfl ?_
    refine m_E.gf H.2.1 H.1 rfl rfl ?_
    refine m_E.ict (by exact decide_eq_true (Int32.le_refl _)) rfl ?_
    refine m_E.run 1 (pc1 := 43) (ls1 := [some _, some _]) (st1 := [_]) rfl ?_
    have e : (x_list X).any p_bad = false := by
      rw [List.any_eq_false]
      intro r hr
      obtain ⟨j, hj, rfl⟩ := List.mem_map.mp hr
      rw [hI j (List.mem_range.mp hj)]; decide
    rw [e]
    exact m_E.zret (by decide) rfl ⟨rfl, rfl⟩
def g_rnd (place top cards : Nat) : Nat → Nat → Nat → Nat
  | 0, _, _ => cards
  | fuel + 1, t, w => if g_before w top cards = place then t else g_rnd place top cards fuel (t + 1) (g_before w top cards)
def g_round (place top cards : Nat) : Nat := g_rnd place top cards (cards - 1) 1 place
def g_lcf (a b : Nat) : Nat → Nat → Nat
  | 0, _ => a * b
  | fuel + 1, f => if a * f % b = 0 then a * f else g_lcf a b fuel (f + 1)
def g_lc (a b : Nat) : Nat := g_lcf a b (b - 1) 1
def g_until (top cards : Nat) : Nat → Nat
  | 0 => 1
  | n + 1 => g_lc (g_until top cards n) (g_round n top cards)
theorem c_roundOf {d : Nat} {place top cards : Nat} {x y z : Int32} {h : m_Hp} (hx : x = nI place) (hy : y = nI top) (hz : z = nI cards) (hp : place < cards) (ht : top ≤ cards) (hc : cards < 100) : m_Call m_P (d + 2) 93 [.int x, .int y, .int z] (h) (some (.int (nI (g_round place top cards)))) (h) := by
  refine m_call_of (tab := tX5_roundOf) (nL := 5) rfl rfl ?_
  subst hx hy hz
  generalize hG : g_round place top cards = G
  refine m_E.run 4 (pc1 := 5) (ls1 := [some _, some _, some _, some _, some _]) (st1 := []) rfl ?_
  refine m_E.lp (fun i ls hh => ∃ w, ls = [some (.int (nI place)), some (.int (nI top)), some (.int (nI cards)), some (.int (nI w)), some (.int (nI (i + 1)))] ∧ (hh = h ∧ w < cards ∧ g_rnd place top cards (cards - 1 - i) (i + 1) w = G)) (cards - 1) ?_ ?_ ?_
  · skip
    rintro i _ hh hi ⟨w, rfl, hI⟩ K
    obtain ⟨rfl, hw, eG⟩ := hI
    rw [show cards - 1 - i = (cards - 1 - (i + 1)) + 1 by omega, g_rnd] at eG
    have hb := g_before_lt ht hw
    refine m_E.run 2 (pc1 := 8) (ls1 := [some _, some _, some _, some _, some _]) (st1 := [_, _]) rfl ?_
    refine m_E.icf ((m_leI (by omega) (by omega)).trans (decide_eq_false (by omega))) rfl ?_
    refine m_E.run 3 (pc1 := 14) (ls1 := [some _, some _, some _, some _, some _]) (st1 := [_, _, _]) rfl ?_
    refine m_E.cv rfl rfl (c_placeBefore rfl rfl rfl (by omega) ht hc) ?_
    refine m_E.run 3 (pc1 := 20) (ls1 := [some _, some _, some _, some _, some _]) (st1 := [_, _]) rfl ?_
    by_cases e : g_before w top cards = place
    · skip
      rw [if_pos e] at eG
      refine m_E.icf (by rw [e]; exact (m_neI (by omega) (by omega)).trans (decide_eq_false (fun z => z rfl))) rfl ?_
      refine m_E.run 1 (pc1 := 25) (ls1 := [some _, some _, some _, some _, some _]) (st1 := [_]) rfl ?_
      exact m_E.iret rfl ⟨by rw [eG], rfl⟩
    · skip
      rw [if_neg e] at eG
      refine m_E.ict ((m_neI (by omega) (by omega)).trans (decide_eq_true e)) rfl ?_
      refine m_E.run 2 (pc1 := 5) (ls1 := [some _, some _, some _, some _, some _]) (st1 := []) rfl ?_
      rw [nI_add]
      exact K _ _ ⟨_, rfl, rfl, hb, eG⟩
  · skip
    exact ⟨place, rfl, rfl, hp, hG⟩
  · skip
    rintro _ hh ⟨w, rfl, hI⟩
    obtain ⟨rfl, hw, eG⟩ := hI
    rw [Nat.sub_self, g_rnd] at eG
    refine m_E.run 2 (pc1 := 8) (ls1 := [some _, some _, some _, some _, some _]) (st1 := [_, _]) rfl ?_
    refine m_E.ict ((m_leI (by omega) (by omega)).trans (decide_eq_true (by omega))) rfl ?_
    refine m_E.run 1 (pc1 := 33) (ls1 := [some _, some _, some _, some _, some _]) (st1 := [_]) rfl ?_
    exact m_E.iret rfl ⟨by rw [eG], rfl⟩
theorem c_lcm {d : Nat} {a b : Nat} {x y : Int32} {h : m_Hp} (hx : x = nI a) (hy : y = nI b) (hb : 0 < b) (hb2 : b < 100) (ha : a < 10000) : m_Call m_P (d + 1) 94 [.int x, .int y] (h) (some (.int (nI (g_lc a b)))) (h) := by
  refine m_call_of (tab := tX5_leastCommonMultiple) (nL := 3) rfl rfl ?_
  subst hx hy
  generalize hG : g_lc a b = G
  refine m_E.run 2 (pc1 := 2) (ls1 := [some _, some _, some _]) (st1 := []) rfl ?_
  refine m_E.lp (fun i ls hh => ls = [some (.int (nI a)), some (.int (nI b)), some (.int (nI (i + 1)))] ∧ (hh = h ∧ g_lcf a b (b - 1 - i) (i + 1) = G)) (b - 1) ?_ ?_ ?_
  · skip
    rintro i _ hh hi ⟨rfl, hI⟩ K
    obtain ⟨rfl, eG⟩ := hI
    rw [show b - 1 - i = (b - 1 - (i + 1)) + 1 by omega, g_lcf] at eG
    have hm : a * (i + 1) < 1000000 := by
      have := Nat.mul_le_mul (Nat.le_of_lt ha) (show i + 1 ≤ 100 by omega)
      rcases Nat.lt_or_ge (a * (i + 1)) 1000000 with z | z
      · exact z
      · have h2 := Nat.mul_lt_mul_of_lt_of_le ha (show i + 1 ≤ 100 by omega) (by decide : 0 < 100); omega
    have hml : a * (i + 1) % b ≤ a * (i + 1) := Nat.mod_le _ _
    refine m_E.run 2 (pc1 := 4) (ls1 := [some _, some _, some _]) (st1 := [_, _]) rfl ?_
    refine m_E.icf ((m_leI (by omega) (by omega)).trans (decide_eq_false (by omega))) rfl ?_
    refine m_E.run 4 (pc1 := 11) (ls1 := [some _, some _, some _]) (st1 := [_, _]) rfl ?_
    dsimp only
    rw [pk_mul]
    refine m_E.div (m_n0 (by omega) hb) rfl ?_
    rw [m_rem (by omega) _ hb (by omega)]
    by_cases e : a * (i + 1) % b = 0
    · skip
      rw [if_pos e] at eG
      refine m_E.iff (by rw [e]; rfl) rfl ?_
      refine m_E.run 3 (pc1 := 18) (ls1 := [some _, some _, some _]) (st1 := [_]) rfl ?_
      dsimp only
      rw [pk_mul]
      exact m_E.iret rfl ⟨by rw [eG], rfl⟩
    · skip
      rw [if_neg e] at eG
      refine m_E.ift (by rw [m_beq0 (by omega), decide_eq_false e]; rfl) rfl ?_
      refine m_E.run 2 (pc1 := 2) (ls1 := [some _, some _, some _]) (st1 := []) rfl ?_
      rw [nI_add]
      exact K _ _ ⟨rfl, rfl, eG⟩
  · skip
    exact ⟨rfl, rfl, hG⟩
  · skip
    rintro _ hh ⟨rfl, hI⟩
    obtain ⟨rfl, eG⟩ := hI
    rw [Nat.sub_self, g_lcf] at eG
    refine m_E.run 2 (pc1 := 4) (ls1 := [some _, some _, some _]) (st1 := [_, _]) rfl ?_
    refine m_E.ict ((m_leI (by omega) (by omega)).trans (decide_eq_true (by omega))) rfl ?_
    refine m_E.run 3 (pc1 := 28) (ls1 := [some _, some _, some _]) (st1 := [_]) rfl ?_
    dsimp only
    rw [pk_mul]
    exact m_E.iret rfl ⟨by rw [eG], rfl⟩
