/-! returns; a run of the plain machine is a contract of the JVM's method -/
section
variable {D : va_G} {cA : Nat → ClassId} {ra : Nat → Nat} {B : Nat} {ro : List (List Int32)} {M : List m_Mt} {cc : ByteArray} {nL : Nat} {ret : Option FieldType} {own nm : String} {pc : Nat} {o : m_Op}
theorem m_end (hn : ∀ (ls : m_Ls) (st : List Value) (h : m_Hp) (x : m_Res), o pc ls st h = some x → ∃ v, x = .inr (.inr v) ∧ m_Rt cc pc st v)
    (hz : ∀ (p : Program) (l : Launch) (e : Env) (R : Room) (s : State) (m : MethodId) (args : Array Value) (below : List Frame) (meth : Method) (c : Code) (d : Nat) (h0 : m_Hp), m_Cx D cA ra B ro p R s m args meth c cc nL ret own nm d h0 →
      ∀ (ls : m_Ls) (st : List Value) (h : m_Hp) (v : Option Value), o pc ls st h = some (.inr (.inr v)) → ∀ (H : Heap) (locs : List Loc) (al : Array Slot) (cells slots : Nat), va_S (m_A B) s.heap H locs → m_Hd D cA ra B h H → W p l e R s m args below meth c H locs cells slots (MQ below (m_Qc D cA ra B v h) args s cells slots (m_A B)) (F0 m pc al (st.map (m_cv ra B)))) : m_Snd D cA ra B ro M cc nL ret own nm pc o := by
  refine ⟨⟨fun ls st h pc1 ls1 st1 h1 eq h4 => ?_, fun ls st h v eq => ?_⟩, ?_⟩
  · obtain ⟨v, q, -⟩ := hn ls st h _ eq
    cases q
  · obtain ⟨v, q, q2⟩ := hn ls st h _ eq
    cases q
    exact q2
  intro p l e R s m args below meth c d h0 Q X
  refine ⟨fun ls st h pc1 ls1 st1 h1 eq h4 => ?_, fun ls st h z as rest r1 h1 eq => ?_, fun ls st h v eq hm hQ => ?_⟩
  · obtain ⟨v, q, -⟩ := hn ls st h _ eq
    cases q
  · obtain ⟨v, q, -⟩ := hn ls st h _ eq
    cases q
  · subst hQ
    intro H locs al hS hH hro hL
    exact hz p l e R s m args below meth c d h0 X ls st h v eq H locs al _ _ hS hH
theorem m_s_iret (hR : ret = some .int) (hdg : decode cc pc = .ok (.ireturn, 1)) : m_Snd D cA ra B ro M cc nL ret own nm pc m_iret := by
  refine m_end (fun ls st h x e => ?_) ?_
  · unfold m_iret at e
    split at e
    · cases e; exact ⟨_, rfl, Or.inl ⟨_, rfl, rfl, hdg⟩⟩
    · cases e
  intro p l e R s m args below meth c d h0 X ls st h v eq H locs al cells slots hS hH
  obtain ⟨hx, hb, hml, hr, hown, hlk, hnm, hts, hW, hsz, hrl, hfr, hlo⟩ := X
  unfold m_iret at eq
  split at eq
  · cases eq
    exact W.iret hx hb (hr.trans hR) (fun t ht hw => ⟨rfl, by rw [ht]; exact hH, hS.F ht⟩) hS.2.2 hdg (hlocks := hlk)
  · cases eq
theorem m_s_zret {ty : FieldType} {f : Int32 → Int32} (hR : ret = some ty) (hn : ∀ x, f x = x → narrow ty (.int x) = .int x) (hdg : decode cc pc = .ok (.ireturn, 1)) : m_Snd D cA ra B ro M cc nL ret own nm pc (m_zret f) := by
  refine m_end (fun ls st h x e => ?_) ?_
  · unfold m_zret at e
    split at e
    · split at e
      · cases e; exact ⟨_, rfl, Or.inl ⟨_, rfl, rfl, hdg⟩⟩
      · cases e
    · cases e
  intro p l e R s m args below meth c d h0 X ls st h v eq H locs al cells slots hS hH
  obtain ⟨hx, hb, hml, hr, hown, hlk, hnm, hts, hW, hsz, hrl, hfr, hlo⟩ := X
  unfold m_zret at eq
  split at eq
  · split at eq
    · rename_i hf
      cases eq
      exact W.zret hx hb (hr.trans hR) (hn _ hf) (fun t ht hw => ⟨rfl, by rw [ht]; exact hH, hS.F ht⟩) hS.2.2 hdg (hlocks := hlk)
    · cases eq
  · cases eq
theorem m_s_fret (hR : ret = some .float) (hdg : decode cc pc = .ok (.freturn, 1)) : m_Snd D cA ra B ro M cc nL ret own nm pc m_fret := by
  refine m_end (fun ls st h x e => ?_) ?_
  · unfold m_fret at e
    split at e
    · cases e; exact ⟨_, rfl, Or.inr (fun x z => by cases z)⟩
    · cases e
  intro p l e R s m args below meth c d h0 X ls st h v eq H locs al cells slots hS hH
  obtain ⟨hx, hb, hml, hr, hown, hlk, hnm, hts, hW, hsz, hrl, hfr, hlo⟩ := X
  unfold m_fret at eq
  split at eq
  · cases eq
    exact W.fret hx hb (hr.trans hR) (fun t ht hw => ⟨rfl, by rw [ht]; exact hH, hS.F ht⟩) hS.2.2 hdg (hlocks := hlk)
  · cases eq
theorem m_s_lret (hR : ret = some .long) (hdg : decode cc pc = .ok (.lreturn, 1)) : m_Snd D cA ra B ro M cc nL ret own nm pc m_lret := by
  refine m_end (fun ls st h x e => ?_) ?_
  · unfold m_lret at e
    split at e
    · cases e; exact ⟨_, rfl, Or.inr (fun x z => by cases z)⟩
    · cases e
  intro p l e R s m args below meth c d h0 X ls st h v eq H locs al cells slots hS hH
  obtain ⟨hx, hb, hml, hr, hown, hlk, hnm, hts, hW, hsz, hrl, hfr, hlo⟩ := X
  unfold m_lret at eq
  split at eq
  · cases eq
    exact W.lret hx hb (hr.trans hR) (fun t ht hw => ⟨rfl, by rw [ht]; exact hH, hS.F ht⟩) hS.2.2 hdg (hlocks := hlk)
  · cases eq
theorem m_s_aret {n : String} (hR : ret = some (.object n)) (hdg : decode cc pc = .ok (.areturn, 1)) : m_Snd D cA ra B ro M cc nL ret own nm pc m_aret := by
  refine m_end (fun ls st h x e => ?_) ?_
  · unfold m_aret at e
    split at e
    · cases e; exact ⟨_, rfl, Or.inr (fun x z => by cases z)⟩
    · cases e; exact ⟨_, rfl, Or.inr (fun x z => by cases z)⟩
    · cases e
  intro p l e R s m args below meth c d h0 X ls st h v eq H locs al cells slots hS hH
  obtain ⟨hx, hb, hml, hr, hown, hlk, hnm, hts, hW, hsz, hrl, hfr, hlo⟩ := X
  unfold m_aret at eq
  split at eq
  · cases eq
    exact W.aret hx hb (hr.trans hR) (Or.inl ⟨n, rfl⟩) (Or.inr ⟨_, rfl⟩) (fun t ht hw => ⟨rfl, by rw [ht]; exact hH, hS.F ht⟩) hS.2.2 hdg (hlocks := hlk)
  · cases eq
    exact W.aret hx hb (hr.trans hR) (Or.inl ⟨n, rfl⟩) (Or.inl rfl) (fun t ht hw => ⟨rfl, by rw [ht]; exact hH, hS.F ht⟩) hS.2.2 hdg (hlocks := hlk)
  · cases eq
theorem m_s_vret (hR : ret = none) (hdg : decode cc pc = .ok (.return_, 1)) : m_Snd D cA ra B ro M cc nL ret own nm pc m_vret := by
  refine m_end (fun ls st h x e => ?_) ?_
  · unfold m_vret at e
    split at e
    · cases e; exact ⟨_, rfl, Or.inr (fun x z => by cases z)⟩
    · cases e
  intro p l e R s m args below meth c d h0 X ls st h v eq H locs al cells slots hS hH
  obtain ⟨hx, hb, hml, hr, hown, hlk, hnm, hts, hW, hsz, hrl, hfr, hlo⟩ := X
  unfold m_vret at eq
  split at eq
  · cases eq
    exact W.vret hx hb (hr.trans hR) (fun t ht hw => ⟨rfl, by rw [ht]; exact hH, hS.F ht⟩) hS.2.2 hdg (hlocks := hlk)
  · cases eq
/-! a table, all its rows -/
theorem m_at_nil {F : Nat → m_Op → Prop} : ∀ pc o, m_at [] pc = some o → F pc o := fun _ _ h => by cases h
theorem m_at_cons {F : Nat → m_Op → Prop} {k : Nat} {o : m_Op} {l : m_Tab} (h1 : F k o) (h2 : ∀ pc o, m_at l pc = some o → F pc o) : ∀ pc o2, m_at ((k, o) :: l) pc = some o2 → F pc o2 := by
  intro pc o2 h
  rw [m_at] at h
  cases hk : Nat.beq k pc with
  | true =>
    rw [hk] at h
    cases h
    have := m_beq hk
    subst this
    exact h1
  | false =>
    rw [hk] at h
    exact h2 pc o2 h
theorem m_at_split : ∀ (l1 l2 : m_Tab) (pc : Nat) (o : m_Op), m_at (l1 ++ l2) pc = some o → m_at l1 pc = some o ∨ m_at l2 pc = some o
  | [], _, _, _, h => Or.inr h
  | (k, x) :: l, l2, pc, o, h => by
    rw [List.cons_append, m_at] at h
    rw [m_at]
    cases hk : Nat.beq k pc with
    | true => rw [hk] at h; exact Or.inl h
    | false => rw [hk] at h; exact m_at_split l l2 pc o h
theorem m_at_app {F : Nat → m_Op → Prop} {l1 l2 : m_Tab} (h1 : ∀ pc o, m_at l1 pc = some o → F pc o) (h2 : ∀ pc o, m_at l2 pc = some o → F pc o) : ∀ pc o, m_at (l1 ++ l2) pc = some o → F pc o := fun pc o h => (m_at_split l1 l2 pc o h).elim (h1 pc o) (h2 pc o)
def m_TS (D : va_G) (cA : Nat → ClassId) (ra : Nat → Nat) (B : Nat) (ro : List (List Int32)) (M : List m_Mt) (q : m_Mt) (w : m_Tab × Nat) : Prop := w.2 = q.2.2.1 ∧ plainName q.1.cls = true ∧ ∀ pc o, m_at w.1 pc = some o → m_Snd D cA ra B ro M q.2.1 q.2.2.1 q.2.2.2 q.1.cls q.1.name pc o
def m_PS (D : va_G) (cA : Nat → ClassId) (ra : Nat → Nat) (B : Nat) (ro : List (List Int32)) (M : List m_Mt) (P : m_Prog) : Prop := ∀ (z : Nat) (w : m_Tab × Nat), P[z]? = some w → ∃ q, M[z]? = some q ∧ m_TS D cA ra B ro M q w
theorem m_ex_mono {C : m_CR} {tab : m_Tab} (hT : ∀ pc o, m_at tab pc = some o → ∀ (ls : m_Ls) (st : List Value) (h : m_Hp) (pc1 : Nat) (ls1 : m_Ls) (st1 : List Value) (h1 : m_Hp), o pc ls st h = some (.inl (pc1, ls1, st1, h1)) → 4 ≤ h.length → m_mono h h1) (hC : ∀ z as h r h1, C z as h r h1 → 4 ≤ h.length → m_mono h h1) : ∀ (n pc : Nat) (ls : m_Ls) (st : List Value) (h : m_Hp) (r : Option Value) (h' : m_Hp), m_Ex C tab n pc ls st h r h' → 4 ≤ h.length → m_mono h h' := by
  intro n
  induction n with
  | zero => intro _ _ _ _ _ _ k; exact k.elim
  | succ n ih =>
    intro pc ls st h r h' k h4
    obtain ⟨op, x, e1, e2, k⟩ := k
    rcases x with ⟨p1, l1, s1, h1⟩ | ⟨z, as, rest⟩ | v
    · have m1 := hT pc op e1 ls st h p1 l1 s1 h1 e2 h4
      exact m1.tr (ih _ _ _ _ _ _ k (Nat.le_trans h4 m1.1))
    · obtain ⟨r1, h1, c1, k⟩ := k
      have m1 := hC _ _ _ _ _ c1 h4
      exact m1.tr (ih _ _ _ _ _ _ k (Nat.le_trans h4 m1.1))
    · obtain ⟨-, rfl⟩ := k
      exact m_mono.rf
theorem m_call_mono {P : m_Prog} (hP : m_PS D cA ra B ro M P) : ∀ (d z : Nat) (as : List Value) (h : m_Hp) (r : Option Value) (h' : m_Hp), m_Call P d z as h r h' → 4 ≤ h.length → m_mono h h' := by
  intro d
  induction d with
  | zero => intro _ _ _ _ _ k; exact k.elim
  | succ d ih =>
    intro z as h r h' k h4
    obtain ⟨w, n, hw, -, k⟩ := k
    obtain ⟨q, -, -, -, hT⟩ := hP z w hw
    exact m_ex_mono (fun pc o e => (hT pc o e).1.1) ih n 0 _ _ h r h' k h4
theorem m_ex_go {p : Program} {l : Launch} {e : Env} {R : Room} {s : State} {m : MethodId} {args : Array Value} {below : List Frame} {meth : Method} {c : Code} {d : Nat} {h0 h' : m_Hp} {r : Option Value} {Q : State → Prop} {C : m_CR} {tab : m_Tab}
    (X : m_Cx D cA ra B ro p R s m args meth c cc nL ret own nm d h0) (hT : ∀ pc o, m_at tab pc = some o → m_Snd D cA ra B ro M cc nL ret own nm pc o) (hCm : ∀ z as h r h1, C z as h r h1 → 4 ≤ h.length → m_mono h h1) (hC : ∀ z as h r h1, C z as h r h1 → 4 ≤ h.length → ∀ q, M[z]? = some q → m_Met D cA ra B ro l d q as h r h1)
    (hret : ∀ (pc : Nat) (ls : m_Ls) (st : List Value) (h : m_Hp) (o : m_Op) (v : Option Value), m_at tab pc = some o → o pc ls st h = some (.inr (.inr v)) → m_mono h0 h → r = v → h' = h → m_Zp D cA ra B ro p l e R s m args below meth c nL Q h0 pc ls st h) (h04 : 4 ≤ h0.length) (hR : m_Rm R h0 h') :
    ∀ (n pc : Nat) (ls : m_Ls) (st : List Value) (h : m_Hp), m_Ex C tab n pc ls st h r h' → m_mono h0 h → m_Zp D cA ra B ro p l e R s m args below meth c nL Q h0 pc ls st h := by
  have room : ∀ h1 : m_Hp, m_mono h1 h' → m_Rm R h0 h1 := fun h1 g => ⟨Nat.le_trans (Nat.sub_le_sub_right g.1 _) hR.1, Nat.le_trans (Nat.sub_le_sub_right g.2.1 _) hR.2⟩
  have mono := m_ex_mono (fun pc o e => (hT pc o e).1.1) hCm
  intro n
  induction n with
  | zero => intro _ _ _ _ k; exact k.elim
  | succ n ih =>
    intro pc ls st h k hm0
    have h4 : 4 ≤ h.length := Nat.le_trans h04 hm0.1
    obtain ⟨op, x, e1, e2, k⟩ := k
    have S := (hT pc op e1).2 p l e R s m args below meth c d h0 Q X
    rcases x with ⟨p1, l1, s1, h1⟩ | ⟨z, as, rest⟩ | v
    · have m1 := (hT pc op e1).1.1 ls st h p1 l1 s1 h1 e2 h4
      exact S.1 ls st h p1 l1 s1 h1 e2 h4 hm0 (room h1 (mono n p1 l1 s1 h1 r h' k (Nat.le_trans h4 m1.1))) (ih p1 l1 s1 h1 k (hm0.tr m1))
    · obtain ⟨r1, h1, c1, k⟩ := k
      have m1 := hCm _ _ _ _ _ c1 h4
      exact S.2.1 ls st h z as rest r1 h1 e2 m1 (hC _ _ _ _ _ c1 h4) hm0 (room h1 (mono n _ _ _ h1 r h' k (Nat.le_trans h4 m1.1))) (ih _ _ _ h1 k (hm0.tr m1))
    · exact hret pc ls st h op v e1 e2 hm0 k.1 k.2
/-! the entry -/
theorem m_sl_len : ∀ (vs : List Value), (∀ v ∈ vs, v.category = 1) → (lg_sl vs).length = vs.length
  | [], _ => rfl
  | v :: l, h => by
    have h1 := h v List.mem_cons_self
    have ih := m_sl_len l (fun w hw => h w (List.mem_cons_of_mem _ hw))
    show ((if v.category = 2 then [Slot.val v, Slot.second] else [Slot.val v]) ++ lg_sl l).length = _
    rw [if_neg (by omega)]
    simp only [List.length_append, ih, List.length_cons, List.length_nil]
    omega
theorem m_args_mem : ∀ (vs : List Value) (i j : Nat) (v : Value), (∀ v ∈ vs, v.category = 1) → vs[j]? = some v → (i + j, v) ∈ lv_args i vs
  | [], i, j, v, _, h => by simp at h
  | w :: l, i, j, v, hc, h => by
    have h1 := hc w List.mem_cons_self
    rw [lv_args, if_neg (by omega)]
    cases j with
    | zero => cases h; exact List.mem_cons_self
    | succ j =>
      have := m_args_mem l (i + 1) j v (fun w hw => hc w (List.mem_cons_of_mem _ hw)) h
      rw [show i + 1 + j = i + (j + 1) by omega] at this
      exact List.mem_cons_of_mem _ this
theorem m_Lv_entry {as : List Value} {n : Nat} (hc : (Nat.ble as.length n && as.all m_c1) = true) : m_Lv ra B ((lg_sl (as.map (m_cv ra B)) ++ List.replicate (n - (lg_sl (as.map (m_cv ra B))).length) Slot.unset).toArray) n (m_entry as n) := by
  rw [Bool.and_eq_true] at hc
  have hl := m_ble hc.1
  have hcat : ∀ v ∈ as.map (m_cv ra B), v.category = 1 := by
    intro v hv
    obtain ⟨w, hw, rfl⟩ := List.mem_map.mp hv
    rw [m_cv_c1]
    exact m_c1_cat (List.all_eq_true.mp hc.2 w hw)
  have hlen : (lg_sl (as.map (m_cv ra B))).length ≤ n := by rw [m_sl_len _ hcat, List.length_map]; exact hl
  have h1 := lv_entry (as.map (m_cv ra B)) hlen
  refine ⟨by unfold m_entry; rw [List.length_append, List.length_map, List.length_replicate]; omega, h1.1, h1.2.1, fun i v hi => ?_⟩
  have hi2 : as[i]? = some v := by
    unfold m_entry at hi
    by_cases hlt : i < as.length
    · rw [List.getElem?_append_left (by rw [List.length_map]; exact hlt), List.getElem?_map] at hi
      cases hq : as[i]? with
      | none => rw [hq] at hi; cases hi
      | some w => rw [hq] at hi; cases hi; rfl
    · rw [List.getElem?_append_right (by rw [List.length_map]; omega), List.getElem?_replicate] at hi
      split at hi <;> cases hi
  have h2 := m_args_mem (as.map (m_cv ra B)) 0 i (m_cv ra B v) hcat (by rw [List.getElem?_map, hi2]; rfl)
  rw [Nat.zero_add] at h2
  exact h1.2.2 _ h2
end
