/-! rules to run the plain machine by hand -/
theorem m_cbl {n : Nat} (h : n < 2 ^ 31) : ¬ nI n < 0 := nI_pos h
theorem m_cl {n : Nat} (h : n < 2 ^ 31) : (nI n).toNatClampNeg = n := nI_clamp h
section
variable {C : m_CR} {tab : m_Tab} {pc : Nat} {ls : m_Ls} {st : List Value} {h : m_Hp} {Q : Option Value → m_Hp → Prop}
/-- a field's value -/
def m_fld (h : m_Hp) (a ci k : Nat) : Option Value := match h[a]? with
  | some (.inr (.inl (cj, fs))) => match fs[k]? with
    | some v => bif Nat.beq cj ci && Nat.blt 3 a then some v else none
    | none => none
  | _ => none
theorem m_E.get {a ci k : Nat} {v : Value} (hv : m_fld h a ci k = some v) (e1 : m_at tab pc = some (m_get ci k)) (kk : m_E C tab (pc + 3) ls (v :: st) h Q) : m_E C tab pc ls (.ref a :: st) h Q := by
  refine m_E.op e1 ?_ kk
  unfold m_fld at hv
  unfold m_get
  dsimp only
  split at hv
  · rename_i cj fs hh
    rw [hh]
    dsimp only
    split at hv
    · rename_i w hw
      rw [hw]
      dsimp only
      cases hc : (Nat.beq cj ci && Nat.blt 3 a) with
      | true => rw [hc] at hv; cases hv; rfl
      | false => rw [hc] at hv; cases hv
    · cases hv
  · cases hv
theorem m_E.put {a ci k ty : Nat} {v : Value} {fs : List Value} (hh : h[a]? = some (.inr (.inl (ci, fs)))) (h3 : 3 < a) (hf : m_fit ty v = true) (hk : k < fs.length) (e1 : m_at tab pc = some (m_put ci k ty)) (kk : m_E C tab (pc + 3) ls st (h.set a (.inr (.inl (ci, fs.set k v)))) Q) : m_E C tab pc ls (v :: .ref a :: st) h Q := by
  refine m_E.op e1 ?_ kk
  unfold m_put
  dsimp only
  rw [hh]
  dsimp only
  have q1 : Nat.blt 3 a = true := by rw [Nat.blt_eq]; exact h3
  have q2 : Nat.blt k fs.length = true := by rw [Nat.blt_eq]; exact hk
  rw [q1, q2, hf, Nat.beq_refl]
  rfl
theorem m_E.len {a t : Nat} {xs : List Int32} (hh : h[a]? = some (.inl (t, xs))) (ht : t < 4) (e1 : m_at tab pc = some m_len) (kk : m_E C tab (pc + 1) ls (.int (nI xs.length) :: st) h Q) : m_E C tab pc ls (.ref a :: st) h Q := by
  refine m_E.op e1 ?_ kk
  unfold m_len
  dsimp only
  rw [hh]
  have q1 : Nat.blt t 4 = true := by rw [Nat.blt_eq]; exact ht
  simp only [q1]
  rfl
theorem m_E.ild {a t j : Nat} {i : Int32} {xs : List Int32} (hh : h[a]? = some (.inl (t, xs))) (ht : t = 0 ∨ 3 < a) (hi : i = nI j) (hj : j < xs.length) (hl : xs.length < 2 ^ 31) (e1 : m_at tab pc = some (m_ild t)) (kk : m_E C tab (pc + 1) ls (.int (xs.getD j 0) :: st) h Q) : m_E C tab pc ls (.int i :: .ref a :: st) h Q := by
  subst hi
  refine m_E.op e1 ?_ kk
  unfold m_ild
  dsimp only
  rw [hh]
  dsimp only
  rw [if_neg (by rw [m_cl (by omega)]; intro z; rcases z with z | z; exact m_cbl (by omega) z; omega), m_cl (by omega), Nat.beq_refl]
  have q : (Nat.beq t 0 || Nat.blt 3 a) = true := by
    rcases ht with rfl | h3
    · rfl
    · have q1 : Nat.blt 3 a = true := by rw [Nat.blt_eq]; exact h3
      rw [q1, Bool.or_true]
  rw [q]
  rfl
theorem m_E.ist {a t j : Nat} {i x : Int32} {xs : List Int32} {f : Int32 → Int32} (hh : h[a]? = some (.inl (t, xs))) (h3 : 3 < a) (hi : i = nI j) (hj : j < xs.length) (hl : xs.length < 2 ^ 31) (e1 : m_at tab pc = some (m_ist t f)) (kk : m_E C tab (pc + 1) ls st (h.set a (.inl (t, xs.set j (f x)))) Q) : m_E C tab pc ls (.int x :: .int i :: .ref a :: st) h Q := by
  subst hi
  refine m_E.op e1 ?_ kk
  unfold m_ist
  dsimp only
  rw [hh]
  dsimp only
  have q1 : Nat.blt 3 a = true := by rw [Nat.blt_eq]; exact h3
  rw [if_neg (by rw [m_cl (by omega)]; intro z; rcases z with z | z; exact m_cbl (by omega) z; omega), m_cl (by omega), Nat.beq_refl, q1]
  rfl
theorem m_E.ald {a t j : Nat} {i : Int32} {rs : List (Option Nat)} (hh : h[a]? = some (.inr (.inr (t, rs)))) (ht : t = 2 ∨ t = 3) (h3 : 3 < a) (hi : i = nI j) (hj : j < rs.length) (hl : rs.length < 2 ^ 31) (e1 : m_at tab pc = some m_ald) (kk : m_E C tab (pc + 1) ls (m_rf (rs.getD j none) :: st) h Q) : m_E C tab pc ls (.int i :: .ref a :: st) h Q := by
  subst hi
  refine m_E.op e1 ?_ kk
  unfold m_ald
  dsimp only
  rw [hh]
  dsimp only
  have q1 : Nat.blt 3 a = true := by rw [Nat.blt_eq]; exact h3
  rw [if_neg (by rw [m_cl (by omega)]; intro z; rcases z with z | z; exact m_cbl (by omega) z; omega), m_cl (by omega), q1]
  rcases ht with rfl | rfl <;> rfl
theorem m_E.ast {a t ci j : Nat} {i : Int32} {rs : List (Option Nat)} {r : Option Nat} (hh : h[a]? = some (.inr (.inr (t, rs)))) (h3 : 3 < a) (hi : i = nI j) (hj : j < rs.length) (hl : rs.length < 2 ^ 31) (hr : ∀ b, r = some b → 3 < b ∧ ∃ fs, h[b]? = some (.inr (.inl (ci, fs)))) (e1 : m_at tab pc = some (m_ast t ci)) (kk : m_E C tab (pc + 1) ls st (h.set a (.inr (.inr (t, rs.set j r)))) Q) : m_E C tab pc ls (m_rf r :: .int i :: .ref a :: st) h Q := by
  subst hi
  refine m_E.op e1 ?_ kk
  have q1 : Nat.blt 3 a = true := by rw [Nat.blt_eq]; exact h3
  cases r with
  | none =>
    unfold m_ast
    dsimp only [m_rf]
    rw [hh]
    dsimp only
    rw [if_neg (by rw [m_cl (by omega)]; intro z; rcases z with z | z; exact m_cbl (by omega) z; omega), m_cl (by omega), Nat.beq_refl, q1]
    rfl
  | some b =>
    obtain ⟨hb, fs, hf⟩ := hr b rfl
    have q2 : Nat.blt 3 b = true := by rw [Nat.blt_eq]; exact hb
    unfold m_ast
    dsimp only [m_rf]
    rw [hh, hf]
    dsimp only
    rw [if_neg (by rw [m_cl (by omega)]; intro z; rcases z with z | z; exact m_cbl (by omega) z; omega), m_cl (by omega), Nat.beq_refl, Nat.beq_refl, q1, q2]
    rfl
theorem m_E.div {f : Int32 → Int32 → Int32} {x y : Int32} (hy : ¬ y = 0) (e1 : m_at tab pc = some (m_div f)) (kk : m_E C tab (pc + 1) ls (.int (f x y) :: st) h Q) : m_E C tab pc ls (.int y :: .int x :: st) h Q := by
  refine m_E.op e1 ?_ kk
  unfold m_div
  dsimp only
  rw [if_neg hy]
theorem m_E.ift {c : Int32 → Bool} {t : Nat} {x : Int32} (hc : c x = true) (e1 : m_at tab pc = some (m_if c t)) (kk : m_E C tab t ls st h Q) : m_E C tab pc ls (.int x :: st) h Q := m_E.op e1 (by unfold m_if; dsimp only; rw [if_pos hc]) kk
theorem m_E.iff {c : Int32 → Bool} {t : Nat} {x : Int32} (hc : c x = false) (e1 : m_at tab pc = some (m_if c t)) (kk : m_E C tab (pc + 3) ls st h Q) : m_E C tab pc ls (.int x :: st) h Q := m_E.op e1 (by unfold m_if; dsimp only; rw [if_neg (by rw [hc]; decide)]) kk
theorem m_E.ict {c : Int32 → Int32 → Bool} {t : Nat} {x y : Int32} (hc : c x y = true) (e1 : m_at tab pc = some (m_icmp c t)) (kk : m_E C tab t ls st h Q) : m_E C tab pc ls (.int y :: .int x :: st) h Q := m_E.op e1 (by unfold m_icmp; dsimp only; rw [if_pos hc]) kk
theorem m_E.icf {c : Int32 → Int32 → Bool} {t : Nat} {x y : Int32} (hc : c x y = false) (e1 : m_at tab pc = some (m_icmp c t)) (kk : m_E C tab (pc + 3) ls st h Q) : m_E C tab pc ls (.int y :: .int x :: st) h Q := m_E.op e1 (by unfold m_icmp; dsimp only; rw [if_neg (by rw [hc]; decide)]) kk
theorem m_E.if2 {c : Int32 → Bool} {t : Nat} {x : Int32} (e1 : m_at tab pc = some (m_if c t)) (kt : c x = true → m_E C tab t ls st h Q) (kf : c x = false → m_E C tab (pc + 3) ls st h Q) : m_E C tab pc ls (.int x :: st) h Q := by
  cases hc : c x with
  | true => exact m_E.ift hc e1 (kt hc)
  | false => exact m_E.iff hc e1 (kf hc)
theorem m_E.ic2 {c : Int32 → Int32 → Bool} {t : Nat} {x y : Int32} (e1 : m_at tab pc = some (m_icmp c t)) (kt : c x y = true → m_E C tab t ls st h Q) (kf : c x y = false → m_E C tab (pc + 3) ls st h Q) : m_E C tab pc ls (.int y :: .int x :: st) h Q := by
  cases hc : c x y with
  | true => exact m_E.ict hc e1 (kt hc)
  | false => exact m_E.icf hc e1 (kf hc)
theorem m_E.zret {f : Int32 → Int32} {x : Int32} (hf : f x = x) (e1 : m_at tab pc = some (m_zret f)) (k : Q (some (.int x)) h) : m_E C tab pc ls [.int x] h Q := m_E.ret e1 (by unfold m_zret; dsimp only; rw [if_pos hf]) k
theorem m_E.iret {x : Int32} (e1 : m_at tab pc = some m_iret) (k : Q (some (.int x)) h) : m_E C tab pc ls [.int x] h Q := m_E.ret e1 rfl k
theorem m_E.vret (e1 : m_at tab pc = some m_vret) (k : Q none h) : m_E C tab pc ls [] h Q := m_E.ret e1 rfl k
theorem m_E.copy {n : Int32} {b a j : Nat} {xs ys : List Int32} (ha : h[a]? = some (.inl (0, xs))) (hb : h[b]? = some (.inl (0, ys))) (h3 : 3 < b) (hn : n = nI j) (h1 : j ≤ xs.length) (h2 : j ≤ ys.length) (h4 : j < 2 ^ 31) (hs : Nat.ble (m_cs st) 8 = true) (e1 : m_at tab pc = some m_copy) (kk : m_E C tab (pc + 3) ls st (h.set b (.inl (0, xs.take j ++ ys.drop j))) Q) : m_E C tab pc ls (.int n :: .int (nI 0) :: .ref b :: .int (nI 0) :: .ref a :: st) h Q := by
  subst hn
  refine m_E.op e1 ?_ kk
  unfold m_copy
  dsimp only
  rw [ha, hb]
  show (if nI 0 = 0 ∧ nI 0 = 0 ∧ ¬ nI j < 0 ∧ (nI j).toNatClampNeg ≤ xs.length ∧ (nI j).toNatClampNeg ≤ ys.length then (bif Nat.blt 3 b && Nat.ble (m_cs st) 8 then some (Sum.inl (pc + 3, ls, st, h.set b (.inl (0, xs.take (nI j).toNatClampNeg ++ ys.drop (nI j).toNatClampNeg)))) else none) else none) = _
  have q1 : Nat.blt 3 b = true := by rw [Nat.blt_eq]; exact h3
  rw [if_pos ⟨rfl, rfl, m_cbl h4, by rw [m_cl h4]; exact h1, by rw [m_cl h4]; exact h2⟩, q1, hs, m_cl h4]
  rfl
end
theorem nI_lit : ∀ n : Nat, n < 2 ^ 31 → (nI n).toInt = n := fun n h => nI_toInt h
theorem m_ltI {a b : Nat} (ha : a < 2 ^ 31) (hb : b < 2 ^ 31) : decide (nI a < nI b) = decide (a < b) := by
  rw [decide_eq_decide]; exact nI_ltI ha hb
theorem m_leI {a b : Nat} (ha : a < 2 ^ 31) (hb : b < 2 ^ 31) : decide (nI a ≤ nI b) = decide (a ≤ b) := by
  rw [decide_eq_decide]; exact nI_leI ha hb
theorem m_lt0 {a : Nat} (ha : a < 2 ^ 31) : decide (nI a < 0) = false := by
  rw [decide_eq_false_iff_not]; exact nI_pos ha
/-! the small statics -/
theorem c_at {d k j : Nat} {i : Int32} {xs : List Int32} {h : m_Hp} (hk : h[k]? = some (.inl (0, xs))) (hi : i = nI j) (hj : j < xs.length) (hl : xs.length < 2 ^ 31) : m_Call m_P (d + 1) 65 [.ref k, .int i] h (some (.int (xs.getD j 0))) h := by
  refine m_call_of (tab := tX5_at) (nL := 2) rfl rfl ?_
  subst hi
  refine m_E.run 1 (pc1 := 1) (ls1 := [some _, some _]) (st1 := [_]) rfl ?_
  refine m_E.iff (m_lt0 (by omega)) rfl ?_
  refine m_E.run 2 (pc1 := 6) (ls1 := [some _, some _]) (st1 := [_, _]) rfl ?_
  refine m_E.len hk (by decide) rfl ?_
  refine m_E.icf (by rw [m_leI (by omega) (by omega)]; simp; omega) rfl ?_
  refine m_E.run 2 (pc1 := 12) (ls1 := [some _, some _]) (st1 := [_, _]) rfl ?_
  refine m_E.ild hk (Or.inl rfl) rfl hj hl rfl ?_
  refine m_E.run 1 (pc1 := 17) (ls1 := [some _, some _]) (st1 := [_]) rfl ?_
  exact m_E.iret rfl ⟨rfl, rfl⟩
