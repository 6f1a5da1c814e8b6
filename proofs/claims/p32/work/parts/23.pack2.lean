/-! the pack's reads, second half; the sheet's reads -/
def g_gs (order marks : List Nat) (dealt place n : Nat) : Nat := g_fold (fun o => g_mk order marks dealt o == g_mk order marks dealt place) (fun o => order.getD (dealt + o) 0) (order.getD (dealt + place) 0) n
theorem g_fold_lt {p : Nat → Bool} {c : Nat → Nat} {low N : Nat} (hl : low < N) : ∀ n, g_fold p c low n < N
  | 0 => hl
  | n + 1 => by
    have := g_fold_lt (p := p) (c := c) hl n
    rw [g_fold]
    split
    · exact Nat.lt_of_le_of_lt (Nat.min_le_left _ _) this
    · exact this
theorem c_guess {d : Nat} {p o dealt place k : Nat} {order : List Nat} {s : c_Sh} {x : Int32} {h : m_Hp} (hp : Hpk h p o order (some k) dealt) (hs : Hsh h k s) (hm : g_sm s) (hx : x = nI place) (hl : dealt + place < 24) : m_Call m_P (d + 4) 18 [.ref p, .int x] (h) (some (.int (nI (g_gs order s.2.1 dealt place (24 - dealt))))) (h) := by
  refine m_call_of (tab := tX1_guessAt) (nL := 6) rfl rfl ?_
  subst hx
  have cl : ∀ j, dealt + j < 24 → order.getD (dealt + j) 0 < 24 := fun j hj => g_getD_lt hp.2.2.2.2.2 (by rw [hp.2.2.2.1]; exact hj)
  have lt : ∀ j, dealt + j < 24 → g_mk order s.2.1 dealt j < 16 := fun j hj => g_mk_lt hm hs.2.2.2.2.2.2.1 (cl j hj)
  have hlt := lt place hl
  refine m_E.run 2 (pc1 := 2) (ls1 := [some _, some _, none, none, none, none]) (st1 := [_, _]) rfl ?_
  refine m_E.ov hp.2.1 hp.1 rfl rfl rfl (c_marksAt hp hs rfl hl) ?_
  refine m_E.run 2 (pc1 := 7) (ls1 := [some _, some _, some _, none, none, none]) (st1 := [_]) rfl ?_
  refine m_E.ov hp.2.1 hp.1 rfl rfl rfl (c_left hp) ?_
  refine m_E.run 3 (pc1 := 13) (ls1 := [some _, some _, some _, some _, none, none]) (st1 := [_, _]) rfl ?_
  refine m_E.ov hp.2.1 hp.1 rfl rfl rfl (c_cardAt hp rfl hl) ?_
  refine m_E.run 3 (pc1 := 21) (ls1 := [some _, some _, some _, some _, some _, some _]) (st1 := []) rfl ?_
  refine m_E.up (fun i => (21, [some (.ref p), some (.int (nI place)), some (.int (nI (g_mk order s.2.1 dealt place))), some (.int (nI (g_left (some k) dealt))), some (.int (nI (g_gs order s.2.1 dealt place i))), some (.int (nI i))], [], h)) (24 - dealt) (fun i => True) (fun i hi hI K => ?_) ?_ (fun hI => ?_)
  · skip
    show m_E _ _ 21 [some (.ref p), some (.int (nI place)), some (.int (nI (g_mk order s.2.1 dealt place))), some (.int (nI (g_left (some k) dealt))), some (.int (nI (g_gs order s.2.1 dealt place i))), some (.int (nI i))] [] (h) _
    refine m_E.run 2 (pc1 := 24) (ls1 := [some _, some _, some _, some _, some _, some _]) (st1 := [_, _]) rfl ?_
    refine m_E.icf (by rw [g_left, m_leI (by omega) (by omega), decide_eq_false_iff_not]; omega) rfl ?_
    refine m_E.run 2 (pc1 := 30) (ls1 := [some _, some _, some _, some _, some _, some _]) (st1 := [_, _]) rfl ?_
    refine m_E.ov hp.2.1 hp.1 rfl rfl rfl (c_marksAt hp hs rfl (by omega)) ?_
    refine m_E.run 1 (pc1 := 34) (ls1 := [some _, some _, some _, some _, some _, some _]) (st1 := [_, _]) rfl ?_
    have hlt2 := lt i (by omega)
    have hc2 := cl i (by omega)
    have hg : g_gs order s.2.1 dealt place i < 24 := g_fold_lt (cl place hl) i
    refine m_E.ic2 rfl (fun h1 => ?_) (fun h1 => ?_)
    · skip
      rw [m_neI (by omega) (by omega), decide_eq_true_eq] at h1
      refine m_E.run 2 (pc1 := 21) (ls1 := [some _, some _, some _, some _, some _, some _]) (st1 := []) rfl ?_
      rw [nI_add]
      have e : g_gs order s.2.1 dealt place (i + 1) = g_gs order s.2.1 dealt place i := by unfold g_gs; rw [g_fold, if_neg (by simpa using h1)]
      rw [← e]
      exact K trivial
    · skip
      rw [m_neI (by omega) (by omega), decide_eq_false_iff_not, Decidable.not_not] at h1
      refine m_E.run 3 (pc1 := 42) (ls1 := [some _, some _, some _, some _, some _, some _]) (st1 := [_, _, _]) rfl ?_
      refine m_E.ov hp.2.1 hp.1 rfl rfl rfl (c_cardAt hp rfl (by omega)) ?_
      refine m_E.run 2 (pc1 := 50) (ls1 := [some _, some _, some _, some _, some _, some _]) (st1 := []) rfl ?_
      rw [m_minI (by omega) (by omega)]
      have e : g_gs order s.2.1 dealt place (i + 1) = min (g_gs order s.2.1 dealt place i) (order.getD (dealt + i) 0) := by unfold g_gs; rw [g_fold, if_pos (by simpa using h1)]
      rw [← e]
      refine m_E.run 2 (pc1 := 21) (ls1 := [some _, some _, some _, some _, some _, some _]) (st1 := []) rfl ?_
      rw [nI_add]
      exact K trivial
  · skip
    trivial
  · skip
    show m_E _ _ 21 ((fun i => [some (.ref p), some (.int (nI place)), some (.int (nI (g_mk order s.2.1 dealt place))), some (.int (nI (g_left (some k) dealt))), some (.int (nI (g_gs order s.2.1 dealt place i))), some (.int (nI i))]) ((24 - dealt))) [] ((fun i => h) ((24 - dealt))) _
    dsimp only
    refine m_E.run 2 (pc1 := 24) (ls1 := [some _, some _, some _, some _, some _, some _]) (st1 := [_, _]) rfl ?_
    refine m_E.ict (by rw [g_left, m_leI (by omega) (by omega)]; simp) rfl ?_
    refine m_E.run 1 (pc1 := 58) (ls1 := [some _, some _, some _, some _, some _, some _]) (st1 := [_]) rfl ?_
    exact m_E.iret rfl ⟨rfl, rfl⟩
/-- what a sharper can say of a pack whose sheet is known -/
def Hps (h : m_Hp) (p o : Nat) (order : List Nat) (fr : Option Nat) (dealt : Nat) (s : c_Sh) : Prop := Hpk h p o order fr dealt ∧ (∀ k, fr = some k → Hsh h k s) ∧ g_sm s
theorem g_can_lt {order marks : List Nat} {dealt n place : Nat} : g_can order marks dealt n place ≤ n := g_cnt_le _ _
theorem c_known {d : Nat} {p o dealt : Nat} {order : List Nat} {fr : Option Nat} {s : c_Sh} {h : m_Hp} (hp : Hps h p o order fr dealt s) : m_Call m_P (d + 5) 19 [.ref p] (h) (some (.int (nI (g_cnt (fun j => g_can order s.2.1 dealt (24 - dealt) j == 1) (g_left fr dealt))))) (h) := by
  refine m_call_of (tab := tX1_known) (nL := 4) rfl rfl ?_
  obtain ⟨hp, hsh, hm⟩ := hp
  refine m_E.run 1 (pc1 := 1) (ls1 := [some _, none, none, none]) (st1 := [_]) rfl ?_
  refine m_E.ov hp.2.1 hp.1 rfl rfl rfl (c_left hp) ?_
  refine m_E.run 5 (pc1 := 9) (ls1 := [some _, some _, some _, some _]) (st1 := []) rfl ?_
  refine m_E.up (fun i => (9, [some (.ref p), some (.int (nI (g_left fr dealt))), some (.int (nI (g_cnt (fun j => g_can order s.2.1 dealt (24 - dealt) j == 1) i))), some (.int (nI i))], [], h)) (g_left fr dealt) (fun i => True) (fun i hi hI K => ?_) ?_ (fun hI => ?_)
  · skip
    show m_E _ _ 9 [some (.ref p), some (.int (nI (g_left fr dealt))), some (.int (nI (g_cnt (fun j => g_can order s.2.1 dealt (24 - dealt) j == 1) i))), some (.int (nI i))] [] (h) _
    obtain ⟨hb, k, ek⟩ := g_left_lt hp.2.2.2.2.1 hi
    have hle := g_left_le fr dealt
    refine m_E.run 2 (pc1 := 11) (ls1 := [some _, some _, some _, some _]) (st1 := [_, _]) rfl ?_
    refine m_E.icf (by rw [m_leI (by omega) (by omega), decide_eq_false_iff_not]; omega) rfl ?_
    refine m_E.run 2 (pc1 := 16) (ls1 := [some _, some _, some _, some _]) (st1 := [_, _]) rfl ?_
    subst ek
    refine m_E.ov hp.2.1 hp.1 rfl rfl rfl (c_canBe hp (hsh k rfl) hm rfl hb) ?_
    refine m_E.run 1 (pc1 := 20) (ls1 := [some _, some _, some _, some _]) (st1 := [_, _]) rfl ?_
    have hc := g_can_lt (order := order) (marks := s.2.1) (dealt := dealt) (n := 24 - dealt) (place := i)
    refine m_E.ic2 rfl (fun h1 => ?_) (fun h1 => ?_)
    · skip
      rw [m_neI (by omega) (by omega), decide_eq_true_eq] at h1
      refine m_E.run 2 (pc1 := 9) (ls1 := [some _, some _, some _, some _]) (st1 := []) rfl ?_
      rw [nI_add]
      have e : g_cnt (fun j => g_can order s.2.1 dealt (24 - dealt) j == 1) (i + 1) = g_cnt (fun j => g_can order s.2.1 dealt (24 - dealt) j == 1) i := by rw [g_cnt, if_neg (by simpa using h1), Nat.add_zero]
      rw [← e]
      exact K trivial
    · skip
      rw [m_neI (by omega) (by omega), decide_eq_false_iff_not, Decidable.not_not] at h1
      refine m_E.run 3 (pc1 := 9) (ls1 := [some _, some _, some _, some _]) (st1 := []) rfl ?_
      rw [nI_add, nI_add]
      have e : g_cnt (fun j => g_can order s.2.1 dealt (24 - dealt) j == 1) (i + 1) = g_cnt (fun j => g_can order s.2.1 dealt (24 - dealt) j == 1) i + 1 := by rw [g_cnt, if_pos (by simpa using h1)]
      rw [← e]
      exact K trivial
  · skip
    trivial
  · skip
    show m_E _ _ 9 ((fun i => [some (.ref p), some (.int (nI (g_left fr dealt))), some (.int (nI (g_cnt (fun j => g_can order s.2.1 dealt (24 - dealt) j == 1) i))), some (.int (nI i))]) ((g_left fr dealt))) [] ((fun i => h) ((g_left fr dealt))) _
    dsimp only
    have hle := g_left_le fr dealt
    refine m_E.run 2 (pc1 := 11) (ls1 := [some _, some _, some _, some _]) (st1 := [_, _]) rfl ?_
    refine m_E.ict (by rw [m_leI (by omega) (by omega)]; simp) rfl ?_
    refine m_E.run 1 (pc1 := 33) (ls1 := [some _, some _, some _, some _]) (st1 := [_]) rfl ?_
    exact m_E.iret rfl ⟨rfl, rfl⟩
theorem c_right {d : Nat} {p o dealt : Nat} {order : List Nat} {fr : Option Nat} {s : c_Sh} {h : m_Hp} (hp : Hps h p o order fr dealt s) : m_Call m_P (d + 5) 20 [.ref p] (h) (some (.int (nI (g_cnt (fun j => g_gs order s.2.1 dealt j (24 - dealt) == order.getD (dealt + j) 0) (g_left fr dealt))))) (h) := by
  refine m_call_of (tab := tX1_guessedRight) (nL := 4) rfl rfl ?_
  obtain ⟨hp, hsh, hm⟩ := hp
  have cl : ∀ j, dealt + j < 24 → order.getD (dealt + j) 0 < 24 := fun j hj => g_getD_lt hp.2.2.2.2.2 (by rw [hp.2.2.2.1]; exact hj)
  refine m_E.run 1 (pc1 := 1) (ls1 := [some _, none, none, none]) (st1 := [_]) rfl ?_
  refine m_E.ov hp.2.1 hp.1 rfl rfl rfl (c_left hp) ?_
  refine m_E.run 5 (pc1 := 9) (ls1 := [some _, some _, some _, some _]) (st1 := []) rfl ?_
  refine m_E.up (fun i => (9, [some (.ref p), some (.int (nI (g_left fr dealt))), some (.int (nI (g_cnt (fun j => g_gs order s.2.1 dealt j (24 - dealt) == order.getD (dealt + j) 0) i))), some (.int (nI i))], [], h)) (g_left fr dealt) (fun i => True) (fun i hi hI K => ?_) ?_ (fun hI => ?_)
  · skip
    show m_E _ _ 9 [some (.ref p), some (.int (nI (g_left fr dealt))), some (.int (nI (g_cnt (fun j => g_gs order s.2.1 dealt j (24 - dealt) == order.getD (dealt + j) 0) i))), some (.int (nI i))] [] (h) _
    obtain ⟨hb, k, ek⟩ := g_left_lt hp.2.2.2.2.1 hi
    have hle := g_left_le fr dealt
    refine m_E.run 2 (pc1 := 11) (ls1 := [some _, some _, some _, some _]) (st1 := [_, _]) rfl ?_
    refine m_E.icf (by rw [m_leI (by omega) (by omega), decide_eq_false_iff_not]; omega) rfl ?_
    refine m_E.run 2 (pc1 := 16) (ls1 := [some _, some _, some _, some _]) (st1 := [_, _]) rfl ?_
    subst ek
    refine m_E.ov hp.2.1 hp.1 rfl rfl rfl (c_guess hp (hsh k rfl) hm rfl hb) ?_
    refine m_E.run 2 (pc1 := 21) (ls1 := [some _, some _, some _, some _]) (st1 := [_, _, _]) rfl ?_
    refine m_E.ov hp.2.1 hp.1 rfl rfl rfl (c_cardAt hp rfl hb) ?_
    have hc := cl i hb
    have hg : g_gs order s.2.1 dealt i (24 - dealt) < 24 := g_fold_lt (cl i hb) _
    refine m_E.ic2 rfl (fun h1 => ?_) (fun h1 => ?_)
    · skip
      rw [m_neI (by omega) (by omega), decide_eq_true_eq] at h1
      refine m_E.run 2 (pc1 := 9) (ls1 := [some _, some _, some _, some _]) (st1 := []) rfl ?_
      rw [nI_add]
      have e : g_cnt (fun j => g_gs order s.2.1 dealt j (24 - dealt) == order.getD (dealt + j) 0) (i + 1) = g_cnt (fun j => g_gs order s.2.1 dealt j (24 - dealt) == order.getD (dealt + j) 0) i := by rw [g_cnt, if_neg (by simpa using h1), Nat.add_zero]
      rw [← e]
      exact K trivial
    · skip
      rw [m_neI (by omega) (by omega), decide_eq_false_iff_not, Decidable.not_not] at h1
      refine m_E.run 3 (pc1 := 9) (ls1 := [some _, some _, some _, some _]) (st1 := []) rfl ?_
      rw [nI_add, nI_add]
      have e : g_cnt (fun j => g_gs order s.2.1 dealt j (24 - dealt) == order.getD (dealt + j) 0) (i + 1) = g_cnt (fun j => g_gs order s.2.1 dealt j (24 - dealt) == order.getD (dealt + j) 0) i + 1 := by rw [g_cnt, if_pos (by simpa using h1)]
      rw [← e]
      exact K trivial
  · skip
    trivial
  · skip
    show m_E _ _ 9 ((fun i => [some (.ref p), some (.int (nI (g_left fr dealt))), some (.int (nI (g_cnt (fun j => g_gs order s.2.1 dealt j (24 - dealt) == order.getD (dealt + j) 0) i))), some (.int (nI i))]) ((g_left fr dealt))) [] ((fun i => h) ((g_left fr dealt))) _
    dsimp only
    have hle := g_left_le fr dealt
    refine m_E.run 2 (pc1 := 11) (ls1 := [some _, some _, some _, some _]) (st1 := [_, _]) rfl ?_
    refine m_E.ict (by rw [m_leI (by omega) (by omega)]; simp) rfl ?_
    refine m_E.run 1 (pc1 := 37) (ls1 := [some _, some _, some _, some _]) (st1 := [_]) rfl ?_
    exact m_E.iret rfl ⟨rfl, rfl⟩
/-- a float sum of parts -/
def g_part (n : Nat) : UInt32 := FP.fdiv FP.fconst1 (FP.i2f (nI n))
def g_sum (f : Nat → Nat) : Nat → UInt32
  | 0 => FP.fconst0
  | n + 1 => FP.fadd (g_sum f n) (g_part (f n))
/-- none of the sums and parts is a NaN -/
def g_num : Prop := (∀ n, 1 ≤ n → n ≤ 24 → g_part n &&& 0x7fffffff ≤ 0x7f800000) ∧ ∀ (f : Nat → Nat) (k : Nat), (∀ j, j < k → 1 ≤ f j ∧ f j ≤ 24) → g_sum f k &&& 0x7fffffff ≤ 0x7f800000
theorem m_E.fbin {C : m_CR} {tab : m_Tab} {pc : Nat} {ls : m_Ls} {st : List Value} {h : m_Hp} {Q : Option Value → m_Hp → Prop} {f : UInt32 → UInt32 → UInt32} {x y : UInt32} (hn : f x y &&& 0x7fffffff ≤ 0x7f800000) (e1 : m_at tab pc = some (m_fbin f)) (kk : m_E C tab (pc + 1) ls (.float (f x y) :: st) h Q) : m_E C tab pc ls (.float y :: .float x :: st) h Q := m_E.op e1 (by unfold m_fbin; dsimp only; rw [if_pos hn]) kk
theorem g_can_pos {order marks : List Nat} {dealt n place : Nat} (h : place < n) : 1 ≤ g_can order marks dealt n place := by
  unfold g_can
  have key : ∀ m, place < m → 1 ≤ g_cnt (fun o => g_mk order marks dealt o == g_mk order marks dealt place) m := by
    intro m
    induction m with
    | zero => intro z; omega
    | succ m ih =>
      intro z
      rw [g_cnt]
      by_cases e : place = m
      · subst e
        simp
      · have := ih (by omega)
        omega
  exact key n h
def g_l3 (f : Nat → Nat) (i : Nat) : Option Value := match i with
  | 0 => none
  | j + 1 => some (.int (nI (f j)))
theorem c_sum {d : Nat} {p o dealt k : Nat} {order : List Nat} {s : c_Sh} {h : m_Hp} (hn : g_num) (hp : Hps h p o order (some k) dealt s) : m_Call m_P (d + 5) 21 [.ref p] (h) (some (.float (g_sum (g_can order s.2.1 dealt (24 - dealt)) (24 - dealt)))) (h) := by
  refine m_call_of (tab := tX1_sumOfChances) (nL := 5) rfl rfl ?_
  obtain ⟨hp, hsh, hm⟩ := hp
  have hd := hp.2.2.2.2.1
  refine m_E.run 1 (pc1 := 1) (ls1 := [some _, none, none, none, none]) (st1 := [_]) rfl ?_
  refine m_E.ov hp.2.1 hp.1 rfl rfl rfl (c_left hp) ?_
  refine m_E.run 5 (pc1 := 9) (ls1 := [some _, some _, some _, some _, none]) (st1 := []) rfl ?_
  refine m_E.up (fun i => (9, [some (.ref p), some (.int (nI (g_left (some k) dealt))), some (.float (g_sum (g_can order s.2.1 dealt (24 - dealt)) i)), some (.int (nI i)), (g_l3 (g_can order s.2.1 dealt (24 - dealt)) i)], [], h)) (24 - dealt) (fun i => True) (fun i hi hI K => ?_) ?_ (fun hI => ?_)
  · skip
    show m_E _ _ 9 [some (.ref p), some (.int (nI (g_left (some k) dealt))), some (.float (g_sum (g_can order s.2.1 dealt (24 - dealt)) i)), some (.int (nI i)), (g_l3 (g_can order s.2.1 dealt (24 - dealt)) i)] [] (h) _
    refine m_E.run 2 (pc1 := 11) (ls1 := [some _, some _, some _, some _, _]) (st1 := [_, _]) rfl ?_
    refine m_E.icf (by rw [g_left, m_leI (by omega) (by omega), decide_eq_false_iff_not]; omega) rfl ?_
    refine m_E.run 2 (pc1 := 16) (ls1 := [some _, some _, some _, some _, _]) (st1 := [_, _]) rfl ?_
    refine m_E.ov hp.2.1 hp.1 rfl rfl rfl (c_canBe hp (hsh k rfl) hm rfl (by omega)) ?_
    have h1 := g_can_lt (order := order) (marks := s.2.1) (dealt := dealt) (n := 24 - dealt) (place := i)
    have h2 : 1 ≤ g_can order s.2.1 dealt (24 - dealt) i := g_can_pos hi
    refine m_E.run 2 (pc1 := 23) (ls1 := [some _, some _, some _, some _, some _]) (st1 := [_]) rfl ?_
    refine m_E.iff (by rw [show (0 : Int32) = nI 0 from rfl, m_leI (by omega) (by omega), decide_eq_false_iff_not]; omega) rfl ?_
    refine m_E.run 4 (pc1 := 31) (ls1 := [some _, some _, some _, some _, some _]) (st1 := [_, _, _]) rfl ?_
    refine m_E.fbin (hn.1 _ h2 (by omega)) rfl ?_
    refine m_E.fbin (hn.2 (g_can order s.2.1 dealt (24 - dealt)) (i + 1) (fun j hj => ⟨g_can_pos (by omega), Nat.le_trans g_can_lt (by omega)⟩)) rfl ?_
    refine m_E.run 3 (pc1 := 9) (ls1 := [some _, some _, some _, some _, some _]) (st1 := []) rfl ?_
    rw [nI_add]
    exact K trivial
  · skip
    trivial
  · skip
    show m_E _ _ 9 ((fun i => [some (.ref p), some (.int (nI (g_left (some k) dealt))), some (.float (g_sum (g_can order s.2.1 dealt (24 - dealt)) i)), some (.int (nI i)), (g_l3 (g_can order s.2.1 dealt (24 - dealt)) i)]) ((24 - dealt))) [] ((fun i => h) ((24 - dealt))) _
    dsimp only
    refine m_E.run 2 (pc1 := 11) (ls1 := [some _, some _, some _, some _, _]) (st1 := [_, _]) rfl ?_
    refine m_E.ict (by rw [g_left, m_leI (by omega) (by omega)]; simp) rfl ?_
    refine m_E.run 1 (pc1 := 41) (ls1 := [some _, some _, some _, some _, _]) (st1 := [_]) rfl ?_
    exact m_E.ret rfl rfl ⟨rfl, rfl⟩
theorem c_cutTo {d : Nat} {k way place : Nat} {s : c_Sh} {x y : Int32} {h : m_Hp} (hs : Hsh h k s) (hx : x = nI way) (hy : y = nI place) (hw : way < 4) (hp : place < 24) : m_Call m_P (d + 3) 23 [.ref k, .int x, .int y] (h) (some (.int (nI (s.1.getD (g_cellAt way place) 0)))) (h) := by
  refine m_call_of (tab := tX2_cardCutTo) (nL := 3) rfl rfl ?_
  obtain ⟨s1, s2, s3, s4, s5, s6, s7, s8⟩ := hs
  have hc : ∀ w, w < 4 → ∀ q, q < 24 → g_cellAt w q < 24 := by decide +kernel
  have hc2 := hc way hw place hp
  refine m_E.run 1 (pc1 := 1) (ls1 := [some _, some _, some _]) (st1 := [_]) rfl ?_
  refine m_E.gf s2 s1 rfl rfl ?_
  refine m_E.run 2 (pc1 := 6) (ls1 := [some _, some _, some _]) (st1 := [_, _, _]) rfl ?_
  refine m_E.cv rfl rfl (c_cellAt hx hy hw hp) ?_
  refine m_E.cv rfl rfl (c_at s3 rfl (by rw [List.length_map]; omega) (by rw [List.length_map]; omega)) ?_
  rw [m_mapD]
  exact m_E.iret rfl ⟨rfl, rfl⟩
def g_home (cards : List Nat) (way n : Nat) : Nat := g_cnt (fun q => cards.getD (g_cellAt way q) 0 == q) n
theorem c_atHome {d : Nat} {k way : Nat} {s : c_Sh} {x : Int32} {h : m_Hp} (hs : Hsh h k s) (hsm : ∀ x, x ∈ s.1 → x < 24) (hx : x = nI way) (hw : way < 4) : m_Call m_P (d + 4) 24 [.ref k, .int x] (h) (some (.int (nI (g_home s.1 way 24)))) (h) := by
  refine m_call_of (tab := tX2_cardsAtHome) (nL := 4) rfl rfl ?_
  subst hx
  have hc : ∀ w, w < 4 → ∀ q, q < 24 → g_cellAt w q < 24 := by decide +kernel
  refine m_E.run 4 (pc1 := 4) (ls1 := [some _, some _, some _, some _]) (st1 := []) rfl ?_
  refine m_E.up (fun i => (4, [some (.ref k), some (.int (nI way)), some (.int (nI (g_home s.1 way i))), some (.int (nI i))], [], h)) 24 (fun i => True) (fun i hi hI K => ?_) ?_ (fun hI => ?_)
  · skip
    show m_E _ _ 4 [some (.ref k), some (.int (nI way)), some (.int (nI (g_home s.1 way i))), some (.int (nI i))] [] (h) _
    refine m_E.run 2 (pc1 := 7) (ls1 := [some _, some _, some _, some _]) (st1 := [_, _]) rfl ?_
    refine m_E.icf (by rw [m_leI (by omega) (by omega), decide_eq_false_iff_not]; omega) rfl ?_
    refine m_E.run 3 (pc1 := 13) (ls1 := [some _, some _, some _, some _]) (st1 := [_, _, _]) rfl ?_
    refine m_E.ov hs.2.1 hs.1 rfl rfl rfl (c_cutTo hs rfl rfl hw hi) ?_
    refine m_E.run 1 (pc1 := 17) (ls1 := [some _, some _, some _, some _]) (st1 := [_, _]) rfl ?_
    have hlt : s.1.getD (g_cellAt way i) 0 < 24 := g_getD_lt hsm (by rw [hs.2.2.2.2.2.1]; exact hc way hw i hi)
    refine m_E.ic2 rfl (fun h1 => ?_) (fun h1 => ?_)
    · skip
      rw [m_neI (by omega) (by omega), decide_eq_true_eq] at h1
      refine m_E.run 2 (pc1 := 4) (ls1 := [some _, some _, some _, some _]) (st1 := []) rfl ?_
      rw [nI_add]
      have e : g_home s.1 way (i + 1) = g_home s.1 way i := by unfold g_home; rw [g_cnt, if_neg (by simpa using h1), Nat.add_zero]
      rw [← e]
      exact K trivial
    · skip
      rw [m_neI (by omega) (by omega), decide_eq_false_iff_not, Decidable.not_not] at h1
      refine m_E.run 3 (pc1 := 4) (ls1 := [some _, some _, some _, some _]) (st1 := []) rfl ?_
      rw [nI_add, nI_add]
      have e : g_home s.1 way (i + 1) = g_home s.1 way i + 1 := by unfold g_home; rw [g_cnt, if_pos (by simpa using h1)]
      rw [← e]
      exact K trivial
  · skip
    trivial
  · skip
    show m_E _ _ 4 ((fun i => [some (.ref k), some (.int (nI way)), some (.int (nI (g_home s.1 way i))), some (.int (nI i))]) (24)) [] ((fun i => h) (24)) _
    dsimp only
    refine m_E.run 2 (pc1 := 7) (ls1 := [some _, some _, some _, some _]) (st1 := [_, _]) rfl ?_
    refine m_E.ict (by decide) rfl ?_
    refine m_E.run 1 (pc1 := 30) (ls1 := [some _, some _, some _, some _]) (st1 := [_]) rfl ?_
    exact m_E.iret rfl ⟨rfl, rfl⟩
