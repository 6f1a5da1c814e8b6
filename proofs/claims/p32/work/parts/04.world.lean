/-! The plain machine's cells upon the JVM's heap -/
def m_ad (ra : Nat → Nat) (B k : Nat) : Nat := if k < 4 then ra k else B + (k - 4)
def m_cv (ra : Nat → Nat) (B : Nat) : Value → Value
  | .ref k => .ref (m_ad ra B k)
  | v => v
def m_ce (cA : Nat → ClassId) (ra : Nat → Nat) (B : Nat) : m_Cel → va_E
  | .inl (t, xs) => .inl (cA t, xs.length, .inl (fun j => xs.getD j 0))
  | .inr (.inl (ci, fs)) => .inr (ci, fs.map (m_cv ra B))
  | .inr (.inr (t, rs)) => .inl (cA t, rs.length, .inr (.inr (.inr (.inr (fun j => (rs.getD j none).map (m_ad ra B))))))
def m_ws (cA : Nat → ClassId) (ra : Nat → Nat) (B : Nat) (h : m_Hp) : va_W := (h.drop 4).mapIdx (fun k c => (B + k, m_ce cA ra B c))
def m_A (B : Nat) : Nat → Prop := fun q => B ≤ q
def m_tys (cA : Nat → ClassId) : List (ClassId × FieldType) := [(cA 0, .int), (cA 1, .char), (cA 2, .object RX2), (cA 3, .object RX3)]
def m_csz : m_Cel → Nat
  | .inl (_, xs) => xs.length
  | .inr (.inl (_, fs)) => fs.length
  | .inr (.inr (_, rs)) => rs.length
def m_sz (h : m_Hp) : Nat := (h.map m_csz).sum
def m_mono (h h1 : m_Hp) : Prop := h.length ≤ h1.length ∧ m_sz h ≤ m_sz h1 ∧ h1.take 4 = h.take 4
theorem m_mono.rf {h : m_Hp} : m_mono h h := ⟨Nat.le_refl _, Nat.le_refl _, rfl⟩
theorem m_mono.tr {a b c : m_Hp} (h1 : m_mono a b) (h2 : m_mono b c) : m_mono a c := ⟨Nat.le_trans h1.1 h2.1, Nat.le_trans h1.2.1 h2.2.1, h2.2.2.trans h1.2.2⟩
theorem m_sz_set {h : m_Hp} {k : Nat} {c c1 : m_Cel} (hk : h[k]? = some c) (hc : m_csz c1 = m_csz c) : m_sz (h.set k c1) = m_sz h := by
  unfold m_sz
  rw [List.map_set, hc]
  congr 1
  apply List.ext_getElem?
  intro i
  by_cases hi : i = k
  · subst hi
    rw [List.getElem?_set_self', List.getElem?_map, hk]; rfl
  · rw [List.getElem?_set_ne (Ne.symm hi)]
theorem m_mono.set {h : m_Hp} {k : Nat} {c c1 : m_Cel} (hk : h[k]? = some c) (h3 : 3 < k) (hc : m_csz c1 = m_csz c) : m_mono h (h.set k c1) := by
  refine ⟨by rw [List.length_set]; exact Nat.le_refl _, by rw [m_sz_set hk hc]; exact Nat.le_refl _, ?_⟩
  rw [List.take_set_of_le (by omega)]
theorem m_mono.app {h : m_Hp} {c : m_Cel} (h4 : 4 ≤ h.length) : m_mono h (h ++ [c]) := by
  refine ⟨by rw [List.length_append]; omega, by unfold m_sz; rw [List.map_append, List.sum_append]; omega, ?_⟩
  rw [List.take_append_of_le_length h4]
theorem m_sz_app {h : m_Hp} {c : m_Cel} : m_sz (h ++ [c]) = m_sz h + m_csz c := by
  unfold m_sz; rw [List.map_append, List.sum_append]; simp
section
variable {D : va_G} {cA : Nat → ClassId} {ra : Nat → Nat} {B : Nat} {ro : List (List Int32)}
theorem m_ws_get {h : m_Hp} {k : Nat} {c : m_Cel} (hk : h[k]? = some c) (h3 : 3 < k) : (m_ws cA ra B h)[k - 4]? = some (m_ad ra B k, m_ce cA ra B c) := by
  unfold m_ws
  rw [List.getElem?_mapIdx, List.getElem?_drop, show 4 + (k - 4) = k by omega, hk]
  simp [m_ad, show ¬ k < 4 by omega]
theorem m_ws_set {h : m_Hp} {k : Nat} {c : m_Cel} (h3 : 3 < k) : (m_ws cA ra B h).set (k - 4) (m_ad ra B k, m_ce cA ra B c) = m_ws cA ra B (h.set k c) := by
  unfold m_ws
  rw [List.drop_set, if_neg (by omega), List.mapIdx_set]
  simp [m_ad, show ¬ k < 4 by omega]
theorem m_ws_app {h : m_Hp} {c : m_Cel} (h4 : 4 ≤ h.length) : m_ws cA ra B (h ++ [c]) = m_ws cA ra B h ++ [(m_ad ra B h.length, m_ce cA ra B c)] := by
  unfold m_ws
  rw [List.drop_append_of_le_length h4, List.mapIdx_append]
  simp [m_ad, show ¬ h.length < 4 by omega]
theorem m_ws_at {h : m_Hp} {k : Nat} {q : Nat × va_E} (hk : (m_ws cA ra B h)[k]? = some q) : q.1 = B + k ∧ k + 4 < h.length := by
  unfold m_ws at hk
  rw [List.getElem?_mapIdx, List.getElem?_drop] at hk
  cases hc : h[4 + k]? with
  | none => rw [hc] at hk; cases hk
  | some c =>
    rw [hc] at hk
    cases hk
    refine ⟨rfl, ?_⟩
    have := (List.getElem?_eq_some_iff.mp hc).1
    omega
theorem m_wsD {h : m_Hp} : va_D (m_A B) (m_ws cA ra B h) := by
  refine ⟨fun i j x y hi hj e => ?_, fun k q hk => ?_⟩
  · have h1 := (m_ws_at hi).1
    have h2 := (m_ws_at hj).1
    omega
  · have h1 := (m_ws_at hk).1
    show B ≤ q.1
    omega
def m_Hd (D : va_G) (cA : Nat → ClassId) (ra : Nat → Nat) (B : Nat) (h : m_Hp) (H : Heap) : Prop := va_P D vwCl (m_ws cA ra B h) H ∧ B + h.length ≤ H.size + 4
/-- the rows that are only read -/
def m_Ro (ra : Nat → Nat) (B : Nat) (ro : List (List Int32)) (U : State) (H : Heap) : Prop := ∀ k xs, ro[k]? = some xs → va_T .int (ra k) xs.length (fun j => .int (xs.getD j 0)) (m_A B) U H
def m_nest : List Cond := lw_tbl.filter (fun w => !goodWord w && w.onTables && w.keepsH)
def m_gd : List Cond := lw_tbl.filter goodWord
/-- what the tables and the cells below say -/
def m_Wd (D : va_G) (cA : Nat → ClassId) (ra : Nat → Nat) (B : Nat) (ro : List (List Int32)) (U : State) (H : Heap) : Prop :=
  va_K D vwCl (m_tys cA) U ∧ m_Ro ra B ro U H ∧ va_Z "CardSheets" "FIRST_OF_SETTING" "[I" (.ref (ra 0)) (m_A B) U H ∧ va_Z "CardSheets" "LEAST_OF_SETTING" "[I" (.ref (ra 1)) (m_A B) U H ∧ va_Z "CardSheets" "MOST_OF_SETTING" "[I" (.ref (ra 2)) (m_A B) U H ∧ (∀ w ∈ m_nest, va_Nw w U) ∧ va_AO RX2 U ∧ va_AO RX3 U ∧ B ≤ H.size
theorem m_nest_warm {s U : State} (hW : s.WarmedH U.vm) (h : ∀ w ∈ m_nest, va_Nw w s) : ∀ w ∈ m_nest, va_Nw w U := by
  intro w hw
  have h1 := h w hw
  unfold m_nest at hw
  have h2 := (List.mem_filter.mp hw).2
  simp only [Bool.and_eq_true] at h2
  obtain ⟨⟨h3, h4⟩, h5⟩ := h2
  cases w <;> first
    | exact va_Nw.warmF hW h1
    | exact va_Nw.warmM hW h1
    | (exfalso; revert h3 h4 h5; simp [goodWord, Cond.keeps, Cond.keepsH, Cond.steady, Cond.onTables]; done)
    | (exfalso; revert h3 h4 h5; simp [goodWord, Cond.keeps, Cond.keepsH, Cond.steady, Cond.onTables]; intros; simp_all; done)
theorem m_Wd.warm {s U : State} {H : Heap} (hW : s.WarmedH U.vm) (h : m_Wd D cA ra B ro s H) : m_Wd D cA ra B ro U H := by
  obtain ⟨h1, h2, h3, h4, h5, h6, h7, h8, h9⟩ := h
  have ha := hW.alike
  exact ⟨va_K.moved ha h1, fun k xs hk => va_T.moved ha (h2 k xs hk), va_Z.moved ha h3, va_Z.moved ha h4, va_Z.moved ha h5, m_nest_warm hW h6, va_AO.moved ha h7, va_AO.moved ha h8, h9⟩
theorem m_Wd.kept {U : State} {H H1 : Heap} (hz : H.size ≤ H1.size) (hq : ∀ a : Nat, a < H.size → ¬ m_A B a → H1[a]? = H[a]?) (h : m_Wd D cA ra B ro U H) : m_Wd D cA ra B ro U H1 := by
  obtain ⟨h1, h2, h3, h4, h5, h6, h7, h8, h9⟩ := h
  exact ⟨h1, fun k xs hk => va_T.kept (h2 k xs hk) hq, va_Z.kept h3 hq, va_Z.kept h4 hq, va_Z.kept h5 hq, h6, h7, h8, Nat.le_trans h9 hz⟩
theorem m_Wd.same {u U : State} {H : Heap} (hv : u.vm = U.vm) (h : m_Wd D cA ra B ro u H) : m_Wd D cA ra B ro U H := by
  obtain ⟨h1, h2, h3, h4, h5, h6, h7, h8, h9⟩ := h
  have ha : u.vm.Alike U.vm := by rw [hv]; exact Vm.Alike.refl _
  refine ⟨va_K.moved ha h1, fun k xs hk => va_T.moved ha (h2 k xs hk), va_Z.moved ha h3, va_Z.moved ha h4, va_Z.moved ha h5, fun w hw => ?_, va_AO.moved ha h7, va_AO.moved ha h8, h9⟩
  have h10 := (List.mem_filter.mp hw).2
  simp only [Bool.and_eq_true] at h10
  exact va_Nw.same h10.1.2 hv (h6 w hw)
/-! locals -/
def m_Lv (ra : Nat → Nat) (B : Nat) (al : Array Slot) (nL : Nat) (ls : m_Ls) : Prop := ls.length = nL ∧ al.size = nL ∧ lv_wf al ∧ ∀ (i : Nat) (v : Value), ls[i]? = some (some v) → al[i]? = some (Slot.val (m_cv ra B v))
def m_lvl (ra : Nat → Nat) (B : Nat) : Nat → m_Ls → List (Nat × Value)
  | _, [] => []
  | i, some v :: l => (i, m_cv ra B v) :: m_lvl ra B (i + 1) l
  | i, none :: l => m_lvl ra B (i + 1) l
theorem m_lvl_mem : ∀ (ls : m_Ls) (i : Nat) (q : Nat × Value), q ∈ m_lvl ra B i ls ↔ ∃ j v, ls[j]? = some (some v) ∧ q = (i + j, m_cv ra B v)
  | [], i, q => by simp [m_lvl]
  | some w :: l, i, q => by
    rw [m_lvl, List.mem_cons, m_lvl_mem l (i + 1) q]
    constructor
    · rintro (h | ⟨j, v, h1, h2⟩)
      · exact ⟨0, w, rfl, h⟩
      · exact ⟨j + 1, v, h1, by rw [h2]; congr 1; omega⟩
    · rintro ⟨j, v, h1, h2⟩
      cases j with
      | zero => cases h1; exact Or.inl h2
      | succ j => exact Or.inr ⟨j, v, h1, by rw [h2]; congr 1; omega⟩
  | none :: l, i, q => by
    rw [m_lvl, m_lvl_mem l (i + 1) q]
    constructor
    · rintro ⟨j, v, h1, h2⟩
      exact ⟨j + 1, v, h1, by rw [h2]; congr 1; omega⟩
    · rintro ⟨j, v, h1, h2⟩
      cases j with
      | zero => cases h1
      | succ j => exact ⟨j, v, h1, by rw [h2]; congr 1; omega⟩
theorem m_Lv.has {al : Array Slot} {nL : Nat} {ls : m_Ls} (h : m_Lv ra B al nL ls) : lv_has al nL (m_lvl ra B 0 ls) := by
  refine ⟨h.2.1, h.2.2.1, fun q hq => ?_⟩
  obtain ⟨j, v, h1, h2⟩ := (m_lvl_mem ls 0 q).mp hq
  rw [h2]
  simp only [Nat.zero_add]
  exact h.2.2.2 j v h1
theorem m_cv_c1 (v : Value) : (m_cv ra B v).category = v.category := by cases v <;> rfl
theorem m_c1_cat {v : Value} (h : m_c1 v = true) : v.category = 1 := by cases v <;> first | rfl | cases h
theorem m_Lv.set {al al1 : Array Slot} {nL : Nat} {ls : m_Ls} {i : Nat} {v : Value} (h : m_Lv ra B al nL ls) (ho : m_ok ls i = true) (hi : i < nL) (h1 : lv_has al1 nL ((i, m_cv ra B v) :: (m_lvl ra B 0 ls).filter (fun q => !(q.1 == i) && !(q.1 + 1 == i && q.2.category == 2)))) : m_Lv ra B al1 nL (ls.set i (some v)) := by
  refine ⟨by rw [List.length_set]; exact h.1, h1.1, h1.2.1, fun j w hj => ?_⟩
  by_cases hji : j = i
  · subst hji
    rw [List.getElem?_set_self (by rw [h.1]; exact hi)] at hj
    cases hj
    exact h1.2.2 (j, m_cv ra B v) List.mem_cons_self
  · rw [List.getElem?_set_ne (Ne.symm hji)] at hj
    refine h1.2.2 (j, m_cv ra B w) (List.mem_cons_of_mem _ (List.mem_filter.mpr ⟨(m_lvl_mem ls 0 _).mpr ⟨j, w, hj, by rw [Nat.zero_add]⟩, ?_⟩))
    have e1 : (j == i) = false := by simpa using hji
    have e2 : (j + 1 == i && (m_cv ra B w).category == 2) = false := by
      by_cases h2 : j + 1 = i
      · subst h2
        have h3 : m_c1 w = true := by
          have h4 : m_ok ls (j + 1) = match ls[j]? with
            | some (some v) => m_c1 v
            | _ => true := rfl
          rw [hj] at h4
          rw [← ho, h4]
        rw [m_cv_c1, m_c1_cat h3]
        simp
      · simp [h2]
    simp [e1, e2]
theorem m_Lv.set2 {al al1 : Array Slot} {nL : Nat} {ls : m_Ls} {i : Nat} {v : Value} (h : m_Lv ra B al nL ls) (ho : m_ok ls i = true) (hi : i + 1 < nL) (h1 : lv_has al1 nL ((i, m_cv ra B v) :: (m_lvl ra B 0 ls).filter (fun q => !(q.1 == i) && (!(q.1 == i + 1) && !(q.1 + 1 == i && q.2.category == 2))))) : m_Lv ra B al1 nL ((ls.set (i + 1) none).set i (some v)) := by
  refine ⟨by rw [List.length_set, List.length_set]; exact h.1, h1.1, h1.2.1, fun j w hj => ?_⟩
  by_cases hji : j = i
  · subst hji
    rw [List.getElem?_set_self (by rw [List.length_set, h.1]; omega)] at hj
    cases hj
    exact h1.2.2 (j, m_cv ra B v) List.mem_cons_self
  · rw [List.getElem?_set_ne (Ne.symm hji)] at hj
    by_cases hj2 : j = i + 1
    · subst hj2
      rw [List.getElem?_set_self (by rw [h.1]; omega)] at hj
      cases hj
    rw [List.getElem?_set_ne (Ne.symm hj2)] at hj
    refine h1.2.2 (j, m_cv ra B w) (List.mem_cons_of_mem _ (List.mem_filter.mpr ⟨(m_lvl_mem ls 0 _).mpr ⟨j, w, hj, by rw [Nat.zero_add]⟩, ?_⟩))
    have e1 : (j == i) = false := by simpa using hji
    have e3 : (j == i + 1) = false := by simpa using hj2
    have e2 : (j + 1 == i && (m_cv ra B w).category == 2) = false := by
      by_cases h2 : j + 1 = i
      · subst h2
        have h3 : m_c1 w = true := by
          have h4 : m_ok ls (j + 1) = match ls[j]? with
            | some (some v) => m_c1 v
            | _ => true := rfl
          rw [hj] at h4
          rw [← ho, h4]
        rw [m_cv_c1, m_c1_cat h3]
        simp
      · simp [h2]
    simp [e1, e2, e3]
end
