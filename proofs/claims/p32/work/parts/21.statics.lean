/-! the class's small statics -/
def g_in (n : Nat) (x : Int32) : Bool := !decide (x < 0) && !decide (nI n ≤ x)
theorem g_in_yes {n j : Nat} (hj : j < n) (hn : n < 2 ^ 31) : g_in n (nI j) = true := by
  unfold g_in
  rw [m_lt0 (by omega), m_leI (by omega) (by omega)]
  simp; omega
theorem g_in_of {n : Nat} {x : Int32} (h : g_in n x = true) (hn : n < 2 ^ 31) : ∃ j, j < n ∧ x = nI j := by
  unfold g_in at h
  simp only [Bool.and_eq_true, Bool.not_eq_true', decide_eq_false_iff_not] at h
  rcases pk_ix x hn with q | q | q
  · exact absurd q h.1
  · exact absurd q h.2
  · exact q
def m_bI (b : Bool) : Int32 := if b then nI 1 else nI 0
theorem m_bI_z (b : Bool) : (m_bI b) &&& 1 = m_bI b := by cases b <;> decide
theorem m_bI_0 (b : Bool) : (m_bI b == 0) = !b := by cases b <;> decide
theorem c_isCell {d : Nat} {x : Int32} {h : m_Hp} : m_Call m_P (d + 1) 61 [.int x] (h) (some (.int (m_bI (g_in 24 x)))) (h) := by
  refine m_call_of (tab := tX5_isCell) (nL := 1) rfl rfl ?_
  refine m_E.run 1 (pc1 := 1) (ls1 := [some _]) (st1 := [_]) rfl ?_
  refine m_E.if2 rfl (fun h1 => ?_) (fun h1 => ?_)
  · skip
    have e : g_in 24 x = false := by unfold g_in; rw [h1]; rfl
    refine m_E.run 1 (pc1 := 15) (ls1 := [some _]) (st1 := [_]) rfl ?_
    rw [e]
    exact m_E.zret (by decide) rfl ⟨rfl, rfl⟩
  · skip
    refine m_E.run 2 (pc1 := 7) (ls1 := [some _]) (st1 := [_, _]) rfl ?_
    refine m_E.ic2 rfl (fun h2 => ?_) (fun h2 => ?_)
    · skip
      have e : g_in 24 x = false := by unfold g_in; rw [h1, h2]; rfl
      refine m_E.run 1 (pc1 := 15) (ls1 := [some _]) (st1 := [_]) rfl ?_
      rw [e]
      exact m_E.zret (by decide) rfl ⟨rfl, rfl⟩
    · skip
      have e : g_in 24 x = true := by unfold g_in; rw [h1, h2]; rfl
      refine m_E.run 2 (pc1 := 15) (ls1 := [some _]) (st1 := [_]) rfl ?_
      rw [e]
      exact m_E.zret (by decide) rfl ⟨rfl, rfl⟩
theorem c_isCard {d : Nat} {x : Int32} {h : m_Hp} : m_Call m_P (d + 1) 62 [.int x] (h) (some (.int (m_bI (g_in 24 x)))) (h) := by
  refine m_call_of (tab := tX5_isCard) (nL := 1) rfl rfl ?_
  refine m_E.run 1 (pc1 := 1) (ls1 := [some _]) (st1 := [_]) rfl ?_
  refine m_E.if2 rfl (fun h1 => ?_) (fun h1 => ?_)
  · skip
    have e : g_in 24 x = false := by unfold g_in; rw [h1]; rfl
    refine m_E.run 1 (pc1 := 15) (ls1 := [some _]) (st1 := [_]) rfl ?_
    rw [e]
    exact m_E.zret (by decide) rfl ⟨rfl, rfl⟩
  · skip
    refine m_E.run 2 (pc1 := 7) (ls1 := [some _]) (st1 := [_, _]) rfl ?_
    refine m_E.ic2 rfl (fun h2 => ?_) (fun h2 => ?_)
    · skip
      have e : g_in 24 x = false := by unfold g_in; rw [h1, h2]; rfl
      refine m_E.run 1 (pc1 := 15) (ls1 := [some _]) (st1 := [_]) rfl ?_
      rw [e]
      exact m_E.zret (by decide) rfl ⟨rfl, rfl⟩
    · skip
      have e : g_in 24 x = true := by unfold g_in; rw [h1, h2]; rfl
      refine m_E.run 2 (pc1 := 15) (ls1 := [some _]) (st1 := [_]) rfl ?_
      rw [e]
      exact m_E.zret (by decide) rfl ⟨rfl, rfl⟩
theorem c_isMark {d : Nat} {x : Int32} {h : m_Hp} : m_Call m_P (d + 1) 63 [.int x] (h) (some (.int (m_bI (g_in 4 x)))) (h) := by
  refine m_call_of (tab := tX5_isMark) (nL := 1) rfl rfl ?_
  refine m_E.run 1 (pc1 := 1) (ls1 := [some _]) (st1 := [_]) rfl ?_
  refine m_E.if2 rfl (fun h1 => ?_) (fun h1 => ?_)
  · skip
    have e : g_in 4 x = false := by unfold g_in; rw [h1]; rfl
    refine m_E.run 1 (pc1 := 14) (ls1 := [some _]) (st1 := [_]) rfl ?_
    rw [e]
    exact m_E.zret (by decide) rfl ⟨rfl, rfl⟩
  · skip
    refine m_E.run 2 (pc1 := 6) (ls1 := [some _]) (st1 := [_, _]) rfl ?_
    refine m_E.ic2 rfl (fun h2 => ?_) (fun h2 => ?_)
    · skip
      have e : g_in 4 x = false := by unfold g_in; rw [h1, h2]; rfl
      refine m_E.run 1 (pc1 := 14) (ls1 := [some _]) (st1 := [_]) rfl ?_
      rw [e]
      exact m_E.zret (by decide) rfl ⟨rfl, rfl⟩
    · skip
      have e : g_in 4 x = true := by unfold g_in; rw [h1, h2]; rfl
      refine m_E.run 2 (pc1 := 14) (ls1 := [some _]) (st1 := [_]) rfl ?_
      rw [e]
      exact m_E.zret (by decide) rfl ⟨rfl, rfl⟩
theorem m_rem {a : Nat} (ha : a < 2 ^ 31) (k : Nat) (h0 : 0 < k) (hk : k < 2 ^ 31) : nI a - nI a / nI k * nI k = nI (a % k) := pk_rem ha h0 hk
theorem m_ne0 {k : Nat} (h0 : 0 < k) (hk : k < 2 ^ 31) : ¬ nI k = 0 := nI_ne0 h0 hk
theorem c_isCourt {d : Nat} {c : Nat} {x : Int32} {h : m_Hp} (hx : x = nI c) (hc : c < 24) : m_Call m_P (d + 1) 64 [.int x] (h) (some (.int (m_bI (decide (3 ≤ c % 6))))) (h) := by
  refine m_call_of (tab := tX5_isCourt) (nL := 1) rfl rfl ?_
  subst hx
  refine m_E.run 2 (pc1 := 3) (ls1 := [some _]) (st1 := [_, _]) rfl ?_
  refine m_E.div (by decide) rfl ?_
  rw [m_rem (by omega) 6 (by decide) (by decide)]
  refine m_E.run 1 (pc1 := 5) (ls1 := [some _]) (st1 := [_, _]) rfl ?_
  refine m_E.ic2 rfl (fun h1 => ?_) (fun h1 => ?_)
  · skip
    rw [m_ltI (by omega) (by decide), decide_eq_true_eq] at h1
    have e : decide (3 ≤ c % 6) = false := by rw [decide_eq_false_iff_not]; omega
    refine m_E.run 1 (pc1 := 13) (ls1 := [some _]) (st1 := [_]) rfl ?_
    rw [e]
    exact m_E.zret (by decide) rfl ⟨rfl, rfl⟩
  · skip
    rw [m_ltI (by omega) (by decide), decide_eq_false_iff_not] at h1
    have e : decide (3 ≤ c % 6) = true := by rw [decide_eq_true_eq]; omega
    refine m_E.run 2 (pc1 := 13) (ls1 := [some _]) (st1 := [_]) rfl ?_
    rw [e]
    exact m_E.zret (by decide) rfl ⟨rfl, rfl⟩
theorem c_put {d : Nat} {k j : Nat} {i x : Int32} {xs : List Int32} {h : m_Hp} (hk : h[k]? = some (.inl (0, xs))) (h3 : 3 < k) (hi : i = nI j) (hj : j < xs.length) (hl : xs.length < 2 ^ 31) : m_Call m_P (d + 1) 66 [.ref k, .int i, .int x] (h) (none) (h.set k (.inl (0, xs.set j x))) := by
  refine m_call_of (tab := tX5_put) (nL := 3) rfl rfl ?_
  subst hi
  refine m_E.run 1 (pc1 := 1) (ls1 := [some _, some _, some _]) (st1 := [_]) rfl ?_
  refine m_E.iff (m_lt0 (by omega)) rfl ?_
  refine m_E.run 2 (pc1 := 6) (ls1 := [some _, some _, some _]) (st1 := [_, _]) rfl ?_
  refine m_E.len hk (by decide) rfl ?_
  refine m_E.icf (by rw [m_leI (by omega) (by omega)]; simp; omega) rfl ?_
  refine m_E.run 3 (pc1 := 13) (ls1 := [some _, some _, some _]) (st1 := [_, _, _]) rfl ?_
  refine m_E.ist hk h3 rfl hj hl rfl ?_
  exact m_E.vret rfl ⟨rfl, rfl⟩
theorem m_minI {a b : Nat} (ha : a < 2 ^ 31) (hb : b < 2 ^ 31) : (if nI b < nI a then nI b else nI a) = nI (min a b) := by
  by_cases h : b < a
  · rw [if_pos ((nI_ltI hb ha).mpr h), Nat.min_eq_right (by omega)]
  · rw [if_neg (fun z => h ((nI_ltI hb ha).mp z)), Nat.min_eq_left (by omega)]
theorem c_copyRow {d : Nat} {a b : Nat} {xs ys : List Int32} {h : m_Hp} (ha : h[a]? = some (.inl (0, xs))) (hb : h[b]? = some (.inl (0, ys))) (h3 : 3 < b) (hl : xs.length = ys.length) (hl2 : xs.length < 2 ^ 31) : m_Call m_P (d + 1) 67 [.ref a, .ref b] (h) (none) (h.set b (.inl (0, xs))) := by
  refine m_call_of (tab := tX5_copyRow) (nL := 2) rfl rfl ?_
  refine m_E.run 5 (pc1 := 5) (ls1 := [some _, some _]) (st1 := [_, _, _, _, _]) rfl ?_
  refine m_E.len ha (by decide) rfl ?_
  refine m_E.run 1 (pc1 := 7) (ls1 := [some _, some _]) (st1 := [_, _, _, _, _, _]) rfl ?_
  refine m_E.len hb (by decide) rfl ?_
  refine m_E.run 1 (pc1 := 11) (ls1 := [some _, some _]) (st1 := [_, _, _, _, _]) rfl ?_
  refine m_E.copy ha hb h3 (by rw [m_minI hl2 (by omega), ← hl, Nat.min_self]) (Nat.le_refl _) (by omega) hl2 rfl rfl ?_
  rw [List.take_length, hl, List.drop_length, List.append_nil]
  exact m_E.vret rfl ⟨rfl, rfl⟩
/-- how many leans are beyond a limit -/
def g_abs (x : Int32) : Int32 := if 0 ≤ x then x else 0 - x
def g_beyond (xs : List Int32) (lim : Int32) : Nat → Nat
  | 0 => 0
  | n + 1 => g_beyond xs lim n + (if lim < g_abs (xs.getD n 0) then 1 else 0)
theorem c_courtsBeyond {d : Nat} {k : Nat} {lim : Int32} {xs : List Int32} {h : m_Hp} (hk : h[k]? = some (.inl (0, xs))) (hl : xs.length < 2 ^ 31) : m_Call m_P (d + 1) 68 [.ref k, .int lim] (h) (some (.int (nI (g_beyond xs lim xs.length)))) (h) := by
  refine m_call_of (tab := tX5_courtsBeyond) (nL := 4) rfl rfl ?_
  refine m_E.run 4 (pc1 := 4) (ls1 := [some _, some _, some _, some _]) (st1 := []) rfl ?_
  refine m_E.up (fun i => (4, [some (.ref k), some (.int lim), some (.int (nI (g_beyond xs lim i))), some (.int (nI i))], [], h)) xs.length (fun i => True) (fun i hi hI K => ?_) ?_ (fun hI => ?_)
  · skip
    show m_E _ _ 4 [some (.ref k), some (.int lim), some (.int (nI (g_beyond xs lim i))), some (.int (nI i))] [] (h) _
    refine m_E.run 2 (pc1 := 6) (ls1 := [some _, some _, some _, some _]) (st1 := [_, _]) rfl ?_
    refine m_E.len hk (by decide) rfl ?_
    refine m_E.icf (by rw [m_leI (by omega) (by omega)]; simp; omega) rfl ?_
    refine m_E.run 2 (pc1 := 12) (ls1 := [some _, some _, some _, some _]) (st1 := [_, _]) rfl ?_
    refine m_E.ild hk (Or.inl rfl) rfl hi hl rfl ?_
    refine m_E.run 2 (pc1 := 17) (ls1 := [some _, some _, some _, some _]) (st1 := [_, _]) rfl ?_
    refine m_E.ic2 rfl (fun h1 => ?_) (fun h1 => ?_)
    · skip
      have e : g_beyond xs lim (i + 1) = g_beyond xs lim i := by rw [g_beyond, if_neg (Int32.not_lt.mpr (by simpa [g_abs] using h1)), Nat.add_zero]
      refine m_E.run 2 (pc1 := 4) (ls1 := [some _, some _, some _, some _]) (st1 := []) rfl ?_
      rw [nI_add, ← e]
      exact K trivial
    · skip
      have e : g_beyond xs lim (i + 1) = g_beyond xs lim i + 1 := by rw [g_beyond, if_pos (by simpa [g_abs, Int32.not_le] using h1)]
      refine m_E.run 3 (pc1 := 4) (ls1 := [some _, some _, some _, some _]) (st1 := []) rfl ?_
      rw [nI_add, nI_add, ← e]
      exact K trivial
  · skip
    trivial
  · skip
    show m_E _ _ 4 ((fun i => [some (.ref k), some (.int lim), some (.int (nI (g_beyond xs lim i))), some (.int (nI i))]) (xs.length)) [] ((fun i => h) (xs.length)) _
    dsimp only
    refine m_E.run 2 (pc1 := 6) (ls1 := [some _, some _, some _, some _]) (st1 := [_, _]) rfl ?_
    refine m_E.len hk (by decide) rfl ?_
    refine m_E.ict (by rw [m_leI (by omega) (by omega)]; simp) rfl ?_
    refine m_E.run 1 (pc1 := 30) (ls1 := [some _, some _, some _, some _]) (st1 := [_]) rfl ?_
    exact m_E.iret rfl ⟨rfl, rfl⟩
theorem m_beq0 {a : Nat} (ha : a < 2 ^ 31) : (nI a == 0) = decide (a = 0) := by
  rw [show (0 : Int32) = nI 0 from rfl]
  by_cases h : a = 0
  · subst h; rfl
  · rw [beq_eq_false_iff_ne.mpr (fun z => h ((nI_eq ha (by decide)).mp z)), decide_eq_false h]
theorem m_beqI {a b : Nat} (ha : a < 2 ^ 31) (hb : b < 2 ^ 31) : (nI a == nI b) = decide (a = b) := by
  by_cases h : a = b
  · subst h; simp
  · rw [beq_eq_false_iff_ne.mpr (fun z => h ((nI_eq ha hb).mp z)), decide_eq_false h]
def g_along (step steps : Nat) (far : Bool) : Nat := if far then steps - 1 - step else step
theorem c_along {d : Nat} {step steps : Nat} {far : Bool} {a b f : Int32} {h : m_Hp} (ha : a = nI step) (hb : b = nI steps) (hf : f = m_bI far) (hs : step < steps) (h1 : steps < 2 ^ 31) : m_Call m_P (d + 1) 70 [.int a, .int b, .int f] (h) (some (.int (nI (g_along step steps far)))) (h) := by
  refine m_call_of (tab := tX5_along) (nL := 3) rfl rfl ?_
  subst ha hb hf
  cases far
  · skip
    refine m_E.run 1 (pc1 := 1) (ls1 := [some _, some _, some _]) (st1 := [_]) rfl ?_
    refine m_E.ift (by decide) rfl ?_
    refine m_E.run 1 (pc1 := 13) (ls1 := [some _, some _, some _]) (st1 := [_]) rfl ?_
    exact m_E.iret rfl ⟨rfl, rfl⟩
  refine m_E.run 1 (pc1 := 1) (ls1 := [some _, some _, some _]) (st1 := [_]) rfl ?_
  refine m_E.iff (by decide) rfl ?_
  refine m_E.run 6 (pc1 := 13) (ls1 := [some _, some _, some _]) (st1 := [_]) rfl ?_
  dsimp only
  rw [pk_sub (by omega), pk_sub (by omega)]
  exact m_E.iret rfl ⟨rfl, rfl⟩
/-- the cell whose card comes to a place by a way of cutting -/
def g_cellAt (way place : Nat) : Nat :=
  if way = 0 ∨ way = 2 then 6 * (place / 6) + g_along (place % 6) 6 (decide (way = 2 ∧ place / 6 % 2 = 1))
  else 6 * g_along (place % 4) 4 (decide (way = 3 ∧ place / 4 % 2 = 1)) + place / 4
theorem m_neI {a b : Nat} (ha : a < 2 ^ 31) (hb : b < 2 ^ 31) : (!(nI a == nI b)) = decide (¬ a = b) := by
  rw [m_beqI ha hb]; simp
theorem m_one (b : Bool) : nI 1 = m_bI true := rfl
theorem c_cellAt_r {d : Nat} {way place : Nat} {a b : Int32} {h : m_Hp} (ha : a = nI way) (hb : b = nI place) (hw : way = 0 ∨ way = 2) (hp : place < 24) : m_Call m_P (d + 2) 69 [.int a, .int b] (h) (some (.int (nI (g_cellAt way place)))) (h) := by
  refine m_call_of (tab := tX5_cellAt) (nL := 4) rfl rfl ?_
  subst ha hb
  have key : m_E (m_Call m_P (d + 1)) tX5_cellAt 9 [some (.int (nI way)), some (.int (nI place)), none, none] [] h (fun r2 h2 => r2 = some (.int (nI (g_cellAt way place))) ∧ h2 = h) := by
    refine m_E.run 2 (pc1 := 12) (ls1 := [some _, some _, none, none]) (st1 := [_, _]) rfl ?_
    refine m_E.div (by decide) rfl ?_
    rw [pk_div (by omega) (by decide) (by decide)]
    have tail : ∀ far : Bool, far = decide (way = 2 ∧ place / 6 % 2 = 1) → m_E (m_Call m_P (d + 1)) tX5_cellAt 31 [some (.int (nI way)), some (.int (nI place)), some (.int (nI (place / 6))), none] [.int (m_bI far)] h (fun r2 h2 => r2 = some (.int (nI (g_cellAt way place))) ∧ h2 = h) := by
      intro far hf
      refine m_E.run 6 (pc1 := 39) (ls1 := [some _, some _, some _, some _]) (st1 := [_, _, _]) rfl ?_
      refine m_E.div (by decide) rfl ?_
      rw [m_rem (by omega) 6 (by decide) (by decide)]
      refine m_E.run 2 (pc1 := 43) (ls1 := [some _, some _, some _, some _]) (st1 := [_, _, _, _]) rfl ?_
      refine m_E.cv rfl rfl (c_along (step := place % 6) (steps := 6) (far := far) rfl rfl rfl (by omega) (by decide)) ?_
      refine m_E.run 1 (pc1 := 47) (ls1 := [some _, some _, some _, some _]) (st1 := [_]) rfl ?_
      dsimp only
      rw [pk_mul, nI_add]
      refine m_E.iret rfl ⟨?_, rfl⟩
      unfold g_cellAt
      rw [if_pos hw, hf]
    refine m_E.run 3 (pc1 := 16) (ls1 := [some _, some _, some _, none]) (st1 := [_, _]) rfl ?_
    refine m_E.ic2 rfl (fun h1 => ?_) (fun h1 => ?_)
    · rw [m_neI (by omega) (by decide), decide_eq_true_eq] at h1
      refine m_E.run 1 (pc1 := 31) (ls1 := [some _, some _, some _, none]) (st1 := [_]) rfl ?_
      exact tail false (by simp [h1])
    · rw [m_neI (by omega) (by decide), decide_eq_false_iff_not, Decidable.not_not] at h1
      refine m_E.run 2 (pc1 := 21) (ls1 := [some _, some _, some _, none]) (st1 := [_, _]) rfl ?_
      refine m_E.div (by decide) rfl ?_
      rw [m_rem (by omega) 2 (by decide) (by decide)]
      refine m_E.run 1 (pc1 := 23) (ls1 := [some _, some _, some _, none]) (st1 := [_, _]) rfl ?_
      refine m_E.ic2 rfl (fun h2 => ?_) (fun h2 => ?_)
      · rw [m_neI (by omega) (by decide), decide_eq_true_eq] at h2
        refine m_E.run 1 (pc1 := 31) (ls1 := [some _, some _, some _, none]) (st1 := [_]) rfl ?_
        exact tail false (by simp [h2])
      · rw [m_neI (by omega) (by decide), decide_eq_false_iff_not, Decidable.not_not] at h2
        refine m_E.run 2 (pc1 := 31) (ls1 := [some _, some _, some _, none]) (st1 := [_]) rfl ?_
        exact tail true (by simp [h1, h2])
  refine m_E.run 1 (pc1 := 1) (ls1 := [some _, some _, none, none]) (st1 := [_]) rfl ?_
  rcases hw with rfl | rfl
  · exact m_E.ift (by decide) rfl key
  · refine m_E.iff (by decide) rfl ?_
    refine m_E.run 2 (pc1 := 6) (ls1 := [some _, some _, none, none]) (st1 := [_, _]) rfl ?_
    exact m_E.icf (by decide) rfl key
theorem c_cellAt_c {d : Nat} {way place : Nat} {a b : Int32} {h : m_Hp} (ha : a = nI way) (hb : b = nI place) (hw : way = 1 ∨ way = 3) (hp : place < 24) : m_Call m_P (d + 2) 69 [.int a, .int b] (h) (some (.int (nI (g_cellAt way place)))) (h) := by
  refine m_call_of (tab := tX5_cellAt) (nL := 4) rfl rfl ?_
  subst ha hb
  have key : m_E (m_Call m_P (d + 1)) tX5_cellAt 48 [some (.int (nI way)), some (.int (nI place)), none, none] [] h (fun r2 h2 => r2 = some (.int (nI (g_cellAt way place))) ∧ h2 = h) := by
    refine m_E.run 2 (pc1 := 50) (ls1 := [some _, some _, none, none]) (st1 := [_, _]) rfl ?_
    refine m_E.div (by decide) rfl ?_
    rw [pk_div (by omega) (by decide) (by decide)]
    have tail : ∀ far : Bool, far = decide (way = 3 ∧ place / 4 % 2 = 1) → m_E (m_Call m_P (d + 1)) tX5_cellAt 69 [some (.int (nI way)), some (.int (nI place)), some (.int (nI (place / 4))), none] [.int (m_bI far)] h (fun r2 h2 => r2 = some (.int (nI (g_cellAt way place))) ∧ h2 = h) := by
      intro far hf
      refine m_E.run 4 (pc1 := 74) (ls1 := [some _, some _, some _, some _]) (st1 := [_, _, _]) rfl ?_
      refine m_E.div (by decide) rfl ?_
      rw [m_rem (by omega) 4 (by decide) (by decide)]
      refine m_E.run 2 (pc1 := 77) (ls1 := [some _, some _, some _, some _]) (st1 := [_, _, _, _]) rfl ?_
      refine m_E.cv rfl rfl (c_along (step := place % 4) (steps := 4) (far := far) rfl rfl rfl (by omega) (by decide)) ?_
      refine m_E.run 3 (pc1 := 83) (ls1 := [some _, some _, some _, some _]) (st1 := [_]) rfl ?_
      dsimp only
      rw [pk_mul, nI_add]
      refine m_E.iret rfl ⟨?_, rfl⟩
      unfold g_cellAt
      rw [if_neg (by omega), hf]
    refine m_E.run 3 (pc1 := 54) (ls1 := [some _, some _, some _, none]) (st1 := [_, _]) rfl ?_
    refine m_E.ic2 rfl (fun h1 => ?_) (fun h1 => ?_)
    · rw [m_neI (by omega) (by decide), decide_eq_true_eq] at h1
      refine m_E.run 1 (pc1 := 69) (ls1 := [some _, some _, some _, none]) (st1 := [_]) rfl ?_
      exact tail false (by simp [h1])
    · rw [m_neI (by omega) (by decide), decide_eq_false_iff_not, Decidable.not_not] at h1
      refine m_E.run 2 (pc1 := 59) (ls1 := [some _, some _, some _, none]) (st1 := [_, _]) rfl ?_
      refine m_E.div (by decide) rfl ?_
      rw [m_rem (by omega) 2 (by decide) (by decide)]
      refine m_E.run 1 (pc1 := 61) (ls1 := [some _, some _, some _, none]) (st1 := [_, _]) rfl ?_
      refine m_E.ic2 rfl (fun h2 => ?_) (fun h2 => ?_)
      · rw [m_neI (by omega) (by decide), decide_eq_true_eq] at h2
        refine m_E.run 1 (pc1 := 69) (ls1 := [some _, some _, some _, none]) (st1 := [_]) rfl ?_
        exact tail false (by simp [h2])
      · rw [m_neI (by omega) (by decide), decide_eq_false_iff_not, Decidable.not_not] at h2
        refine m_E.run 2 (pc1 := 69) (ls1 := [some _, some _, some _, none]) (st1 := [_]) rfl ?_
        exact tail true (by simp [h1, h2])
  refine m_E.run 1 (pc1 := 1) (ls1 := [some _, some _, none, none]) (st1 := [_]) rfl ?_
  refine m_E.iff (by rw [m_beq0 (by omega), decide_eq_false_iff_not]; omega) rfl ?_
  refine m_E.run 2 (pc1 := 6) (ls1 := [some _, some _, none, none]) (st1 := [_, _]) rfl ?_
  exact m_E.ict (by rw [m_neI (by omega) (by decide), decide_eq_true_eq]; omega) rfl key
theorem c_cellAt {d way place : Nat} {a b : Int32} {h : m_Hp} (ha : a = nI way) (hb : b = nI place) (hw : way < 4) (hp : place < 24) : m_Call m_P (d + 2) 69 [.int a, .int b] h (some (.int (nI (g_cellAt way place)))) h := by
  by_cases h1 : way = 0 ∨ way = 2
  · exact c_cellAt_r ha hb h1 hp
  · exact c_cellAt_c ha hb (by omega) hp
/-- the place that a card had before a shuffle -/
def g_before (place top cards : Nat) : Nat :=
  if place < 2 * min top (cards - top) then (if place % 2 = 0 then place / 2 else top + place / 2) else if min top (cards - top) < top then place - min top (cards - top) else place
theorem c_placeBefore {d : Nat} {place top cards : Nat} {a b c : Int32} {h : m_Hp} (ha : a = nI place) (hb : b = nI top) (hc : c = nI cards) (h1 : place < 100) (h2 : top ≤ cards) (h3 : cards < 100) : m_Call m_P (d + 1) 71 [.int a, .int b, .int c] (h) (some (.int (nI (g_before place top cards)))) (h) := by
  refine m_call_of (tab := tX5_placeBefore) (nL := 4) rfl rfl ?_
  subst ha hb hc
  have hm : (if (nI cards - nI top) < nI top then (nI cards - nI top) else nI top) = nI (min top (cards - top)) := by rw [pk_sub h2, m_minI (by omega) (by omega)]
  have hmn : min top (cards - top) ≤ top := Nat.min_le_left _ _
  refine m_E.run 6 (pc1 := 8) (ls1 := [some _, some _, some _, some _]) (st1 := []) rfl ?_
  dsimp only
  rw [hm]
  refine m_E.run 4 (pc1 := 12) (ls1 := [some _, some _, some _, some _]) (st1 := [_, _]) rfl ?_
  dsimp only
  rw [pk_mul]
  refine m_E.ic2 rfl (fun q1 => ?_) (fun q1 => ?_)
  · skip
    rw [m_ltI (by omega) (by omega), decide_eq_true_eq] at q1
    unfold g_before
    rw [if_pos q1]
    refine m_E.run 2 (pc1 := 30) (ls1 := [some _, some _, some _, some _]) (st1 := [_, _]) rfl ?_
    refine m_E.div (by decide) rfl ?_
    rw [m_rem (by omega) 2 (by decide) (by decide)]
    refine m_E.if2 rfl (fun q2 => ?_) (fun q2 => ?_)
    · skip
      rw [show (0 : Int32) = nI 0 from rfl, m_neI (by omega) (by decide), decide_eq_true_eq] at q2
      rw [if_neg q2]
      refine m_E.run 3 (pc1 := 43) (ls1 := [some _, some _, some _, some _]) (st1 := [_, _, _]) rfl ?_
      refine m_E.div (by decide) rfl ?_
      rw [pk_div (by omega) (by decide) (by decide)]
      refine m_E.run 1 (pc1 := 45) (ls1 := [some _, some _, some _, some _]) (st1 := [_]) rfl ?_
      dsimp only
      rw [nI_add]
      exact m_E.iret rfl ⟨rfl, rfl⟩
    · skip
      rw [show (0 : Int32) = nI 0 from rfl, m_neI (by omega) (by decide), decide_eq_false_iff_not, Decidable.not_not] at q2
      rw [if_pos q2]
      refine m_E.run 2 (pc1 := 36) (ls1 := [some _, some _, some _, some _]) (st1 := [_, _]) rfl ?_
      refine m_E.div (by decide) rfl ?_
      rw [pk_div (by omega) (by decide) (by decide)]
      refine m_E.run 1 (pc1 := 45) (ls1 := [some _, some _, some _, some _]) (st1 := [_]) rfl ?_
      exact m_E.iret rfl ⟨rfl, rfl⟩
  · skip
    rw [m_ltI (by omega) (by omega), decide_eq_false_iff_not] at q1
    unfold g_before
    rw [if_neg q1]
    refine m_E.run 2 (pc1 := 17) (ls1 := [some _, some _, some _, some _]) (st1 := [_, _]) rfl ?_
    refine m_E.ic2 rfl (fun q2 => ?_) (fun q2 => ?_)
    · skip
      rw [m_leI (by omega) (by omega), decide_eq_true_eq] at q2
      rw [if_neg (by omega)]
      refine m_E.run 1 (pc1 := 27) (ls1 := [some _, some _, some _, some _]) (st1 := [_]) rfl ?_
      exact m_E.iret rfl ⟨rfl, rfl⟩
    · skip
      rw [m_leI (by omega) (by omega), decide_eq_false_iff_not] at q2
      rw [if_pos (by omega)]
      refine m_E.run 4 (pc1 := 27) (ls1 := [some _, some _, some _, some _]) (st1 := [_]) rfl ?_
      dsimp only
      rw [pk_sub (by omega)]
      exact m_E.iret rfl ⟨rfl, rfl⟩
