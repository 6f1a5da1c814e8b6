
/-! each instruction of the plain machine stands for one of the JVM's -/
abbrev m_Mt : Type := MethodName × ByteArray × Nat × Option FieldType
def m_rm (d : Nat) (h h1 : m_Hp) : Room := { frames := d, cells := h1.length - h.length, slots := m_sz h1 - m_sz h, locals := 41 * d + 40 }
def m_Rd (ro : List (List Int32)) (h : m_Hp) : Prop := h.take 4 = ro.map (fun xs => (Sum.inl (0, xs) : m_Cel))
def m_Pc (D : va_G) (cA : Nat → ClassId) (ra : Nat → Nat) (B : Nat) (ro : List (List Int32)) (as : List Value) (h : m_Hp) : Array Value → State → Prop := fun v U => v = (as.map (m_cv ra B)).toArray ∧ m_Hd D cA ra B h U.heap ∧ B + h.length = U.heap.size + 4 ∧ m_Wd D cA ra B ro U U.heap ∧ m_Rd ro h ∧ ro.length = 4
def m_Qc (D : va_G) (cA : Nat → ClassId) (ra : Nat → Nat) (B : Nat) (r : Option Value) (h1 : m_Hp) : Array Value → State → Outcome → State → Prop := fun _ st oc t => oc = .returned (r.map (m_cv ra B)) ∧ m_Hd D cA ra B h1 t.heap ∧ va_F (m_A B) st t
def m_Met (D : va_G) (cA : Nat → ClassId) (ra : Nat → Nat) (B : Nat) (ro : List (List Int32)) (l : Launch) (d : Nat) (q : m_Mt) (as : List Value) (h : m_Hp) (r : Option Value) (h1 : m_Hp) : Prop := Met l q.1 (Cond.code q.1 q.2.1 q.2.2.1 q.2.2.2 :: m_gd) (m_rm d h h1) (m_Pc D cA ra B ro as h) (m_Qc D cA ra B r h1) (h1.length - h.length) (m_sz h1 - m_sz h) (m_A B)
def m_Cx (D : va_G) (cA : Nat → ClassId) (ra : Nat → Nat) (B : Nat) (ro : List (List Int32)) (p : Program) (R : Room) (s : State) (m : MethodId) (args : Array Value) (meth : Method) (c : Code) (cc : ByteArray) (nL : Nat) (ret : Option FieldType) (own nm : String) (d : Nat) (h0 : m_Hp) : Prop :=
  p.tables.exec = Jvm.exec ∧ c.code = cc ∧ c.maxLocals = nL ∧ meth.sig.returnType = ret ∧ s.vm.findClass own = some m.cls ∧ meth.locks = false ∧ meth.name = nm ∧ (∀ w ∈ m_gd, w.before args s = true) ∧ m_Wd D cA ra B ro s s.heap ∧ B + h0.length = s.heap.size + 4 ∧ ro.length = 4 ∧ d + 1 ≤ R.frames ∧ 41 * (d + 1) + 40 ≤ R.locals
def m_Zp (D : va_G) (cA : Nat → ClassId) (ra : Nat → Nat) (B : Nat) (ro : List (List Int32)) (p : Program) (l : Launch) (e : Env) (R : Room) (s : State) (m : MethodId) (args : Array Value) (below : List Frame) (meth : Method) (c : Code) (nL : Nat) (Q : State → Prop) (h0 : m_Hp) (pc : Nat) (ls : m_Ls) (st : List Value) (h : m_Hp) : Prop :=
  ∀ (H : Heap) (locs : List Loc) (al : Array Slot), va_S (m_A B) s.heap H locs → m_Hd D cA ra B h H → m_Rd ro h → m_Lv ra B al nL ls → W p l e R s m args below meth c H locs (h.length - h0.length) (m_sz h - m_sz h0) Q (F0 m pc al (st.map (m_cv ra B)))
def m_Rm (R : Room) (h0 h1 : m_Hp) : Prop := h1.length - h0.length ≤ R.cells ∧ m_sz h1 - m_sz h0 ≤ R.slots
/-- how an int is answered -/
def m_Rt (cc : ByteArray) (pc : Nat) (st : List Value) (v : Option Value) : Prop := (∃ x, st = [.int x] ∧ v = some (.int x) ∧ decode cc pc = .ok (.ireturn, 1)) ∨ ∀ x, v ≠ some (.int x)
def m_Snd (D : va_G) (cA : Nat → ClassId) (ra : Nat → Nat) (B : Nat) (ro : List (List Int32)) (M : List m_Mt) (cc : ByteArray) (nL : Nat) (ret : Option FieldType) (own nm : String) (pc : Nat) (o : m_Op) : Prop :=
  ((∀ (ls : m_Ls) (st : List Value) (h : m_Hp) (pc1 : Nat) (ls1 : m_Ls) (st1 : List Value) (h1 : m_Hp), o pc ls st h = some (.inl (pc1, ls1, st1, h1)) → 4 ≤ h.length → m_mono h h1) ∧ ∀ (ls : m_Ls) (st : List Value) (h : m_Hp) (v : Option Value), o pc ls st h = some (.inr (.inr v)) → m_Rt cc pc st v) ∧
  ∀ (p : Program) (l : Launch) (e : Env) (R : Room) (s : State) (m : MethodId) (args : Array Value) (below : List Frame) (meth : Method) (c : Code) (d : Nat) (h0 : m_Hp) (Q : State → Prop),
    m_Cx D cA ra B ro p R s m args meth c cc nL ret own nm d h0 →
    (∀ (ls : m_Ls) (st : List Value) (h : m_Hp) (pc1 : Nat) (ls1 : m_Ls) (st1 : List Value) (h1 : m_Hp), o pc ls st h = some (.inl (pc1, ls1, st1, h1)) → 4 ≤ h.length → m_mono h0 h → m_Rm R h0 h1 → m_Zp D cA ra B ro p l e R s m args below meth c nL Q h0 pc1 ls1 st1 h1 → m_Zp D cA ra B ro p l e R s m args below meth c nL Q h0 pc ls st h) ∧
    (∀ (ls : m_Ls) (st : List Value) (h : m_Hp) (z : Nat) (as rest : List Value) (r1 : Option Value) (h1 : m_Hp), o pc ls st h = some (.inr (.inl (z, as, rest))) → m_mono h h1 → (∀ q, M[z]? = some q → m_Met D cA ra B ro l d q as h r1 h1) → m_mono h0 h → m_Rm R h0 h1 → m_Zp D cA ra B ro p l e R s m args below meth c nL Q h0 (pc + 3) ls (r1.toList ++ rest) h1 → m_Zp D cA ra B ro p l e R s m args below meth c nL Q h0 pc ls st h) ∧
    (∀ (ls : m_Ls) (st : List Value) (h : m_Hp) (v : Option Value), o pc ls st h = some (.inr (.inr v)) → m_mono h0 h → Q = MQ below (m_Qc D cA ra B v h) args s (h.length - h0.length) (m_sz h - m_sz h0) (m_A B) → m_Zp D cA ra B ro p l e R s m args below meth c nL Q h0 pc ls st h)
section
variable {D : va_G} {cA : Nat → ClassId} {ra : Nat → Nat} {B : Nat} {ro : List (List Int32)} {M : List m_Mt} {cc : ByteArray} {nL : Nat} {ret : Option FieldType} {own nm : String} {pc : Nat} {o : m_Op}
theorem m_pure (hn : ∀ (ls : m_Ls) (st : List Value) (h : m_Hp) (x : m_Res), o pc ls st h = some x → ∃ (pc1 : Nat) (ls1 : m_Ls) (st1 : List Value), x = .inl (pc1, ls1, st1, h))
    (hz : ∀ (p : Program) (l : Launch) (e : Env) (R : Room) (s : State) (m : MethodId) (args : Array Value) (below : List Frame) (meth : Method) (c : Code) (d : Nat) (h0 : m_Hp) (Q : State → Prop), m_Cx D cA ra B ro p R s m args meth c cc nL ret own nm d h0 →
      ∀ (ls : m_Ls) (st : List Value) (h : m_Hp) (pc1 : Nat) (ls1 : m_Ls) (st1 : List Value), o pc ls st h = some (.inl (pc1, ls1, st1, h)) → ∀ (H : Heap) (locs : List Loc) (al : Array Slot) (cells slots : Nat), va_S (m_A B) s.heap H locs → m_Hd D cA ra B h H → m_Rd ro h → m_Lv ra B al nL ls → cells ≤ R.cells → slots ≤ R.slots →
        (∀ al1, m_Lv ra B al1 nL ls1 → W p l e R s m args below meth c H locs cells slots Q (F0 m pc1 al1 (st1.map (m_cv ra B)))) → W p l e R s m args below meth c H locs cells slots Q (F0 m pc al (st.map (m_cv ra B)))) : m_Snd D cA ra B ro M cc nL ret own nm pc o := by
  refine ⟨⟨fun ls st h pc1 ls1 st1 h1 eq h4 => ?_, fun ls st h v eq => ?_⟩, ?_⟩
  · obtain ⟨q1, q2, q3, q4⟩ := hn ls st h _ eq
    cases q4
    exact m_mono.rf
  · obtain ⟨q1, q2, q3, q4⟩ := hn ls st h _ eq
    cases q4
  intro p l e R s m args below meth c d h0 Q X
  refine ⟨fun ls st h pc1 ls1 st1 h1 eq h4 => ?_, fun ls st h z as rest r1 h1 eq => ?_, fun ls st h v eq => ?_⟩
  · obtain ⟨q1, q2, q3, q4⟩ := hn ls st h _ eq
    cases q4
    intro hm hR k H locs al hS hH hro hL
    exact hz p l e R s m args below meth c d h0 Q X ls st h pc1 ls1 st1 eq H locs al _ _ hS hH hro hL hR.1 hR.2 (fun al1 h1 => k H locs al1 hS hH hro h1)
  · obtain ⟨q1, q2, q3, q4⟩ := hn ls st h _ eq
    cases q4
  · obtain ⟨q1, q2, q3, q4⟩ := hn ls st h _ eq
    cases q4
theorem m_s_no : m_Snd D cA ra B ro M cc nL ret own nm pc m_no := m_pure (fun _ _ _ _ e => by cases e) (fun _ _ _ _ _ _ _ _ _ _ _ _ _ _ _ _ _ _ _ _ e => by cases e)
theorem m_sto_spec {i w : Nat} {v : Value} {st st0 : List Value} {ls : m_Ls} {h : m_Hp} {x : m_Res} (e : m_sto i w v st pc ls st0 h = some x) : m_ok ls i = true ∧ i < ls.length ∧ x = .inl (pc + w, ls.set i (some v), st, h) := by
  unfold m_sto at e
  cases hc : (m_ok ls i && Nat.blt i ls.length) with
  | false => rw [hc] at e; cases e
  | true =>
    rw [hc] at e
    cases e
    rw [Bool.and_eq_true] at hc
    exact ⟨hc.1, by have := hc.2; rw [Nat.blt_eq] at this; exact this, rfl⟩

theorem m_s_iconst {n : Int} {v : Int32} (hdg : decode cc pc = .ok (.iconst n, 1)) (hv : Int32.ofInt n = v) : m_Snd D cA ra B ro M cc nL ret own nm pc (m_const (.int v) 1) := by
  refine m_pure (by
  intro ls st h x e
  unfold m_const at e
  (repeat' split at e) <;> first | (cases e; done) | (cases e; exact ⟨_, _, _, rfl⟩)) ?_
  intro p l e R s m args below meth c d h0 Q X ls st h pc1 ls1 st1 eq H locs al cells slots hS hH hro hL hcl hsl k
  obtain ⟨hx, hb, hml, hr, hown, hlk, hnm, hts, hW, hsz, hrl, hfr, hlo⟩ := X
  unfold m_const at eq
  cases eq
  exact lv_iconst hx hb hdg hv (k al hL)

theorem m_s_bipush {n : Int} {v : Int32} (hdg : decode cc pc = .ok (.bipush n, 2)) (hv : (Int8.ofInt n).toInt32 = v) : m_Snd D cA ra B ro M cc nL ret own nm pc (m_const (.int v) 2) := by
  refine m_pure (by
  intro ls st h x e
  unfold m_const at e
  (repeat' split at e) <;> first | (cases e; done) | (cases e; exact ⟨_, _, _, rfl⟩)) ?_
  intro p l e R s m args below meth c d h0 Q X ls st h pc1 ls1 st1 eq H locs al cells slots hS hH hro hL hcl hsl k
  obtain ⟨hx, hb, hml, hr, hown, hlk, hnm, hts, hW, hsz, hrl, hfr, hlo⟩ := X
  unfold m_const at eq
  cases eq
  exact lv_bipush hx hb hdg hv (k al hL)

theorem m_s_sipush {n : Int} {v : Int32} (hdg : decode cc pc = .ok (.sipush n, 3)) (hv : (Int16.ofInt n).toInt32 = v) : m_Snd D cA ra B ro M cc nL ret own nm pc (m_const (.int v) 3) := by
  refine m_pure (by
  intro ls st h x e
  unfold m_const at e
  (repeat' split at e) <;> first | (cases e; done) | (cases e; exact ⟨_, _, _, rfl⟩)) ?_
  intro p l e R s m args below meth c d h0 Q X ls st h pc1 ls1 st1 eq H locs al cells slots hS hH hro hL hcl hsl k
  obtain ⟨hx, hb, hml, hr, hown, hlk, hnm, hts, hW, hsz, hrl, hfr, hlo⟩ := X
  unfold m_const at eq
  cases eq
  exact lv_sipush hx hb hdg hv (k al hL)

theorem m_s_fconst0 (hdg : decode cc pc = .ok (.fconst 0, 1)) : m_Snd D cA ra B ro M cc nL ret own nm pc (m_const (.float FP.fconst0) 1) := by
  refine m_pure (by
  intro ls st h x e
  unfold m_const at e
  (repeat' split at e) <;> first | (cases e; done) | (cases e; exact ⟨_, _, _, rfl⟩)) ?_
  intro p l e R s m args below meth c d h0 Q X ls st h pc1 ls1 st1 eq H locs al cells slots hS hH hro hL hcl hsl k
  obtain ⟨hx, hb, hml, hr, hown, hlk, hnm, hts, hW, hsz, hrl, hfr, hlo⟩ := X
  unfold m_const at eq
  cases eq
  exact lv_fconst0 hx hb hdg (k al hL)

theorem m_s_fconst1 (hdg : decode cc pc = .ok (.fconst 1, 1)) : m_Snd D cA ra B ro M cc nL ret own nm pc (m_const (.float FP.fconst1) 1) := by
  refine m_pure (by
  intro ls st h x e
  unfold m_const at e
  (repeat' split at e) <;> first | (cases e; done) | (cases e; exact ⟨_, _, _, rfl⟩)) ?_
  intro p l e R s m args below meth c d h0 Q X ls st h pc1 ls1 st1 eq H locs al cells slots hS hH hro hL hcl hsl k
  obtain ⟨hx, hb, hml, hr, hown, hlk, hnm, hts, hW, hsz, hrl, hfr, hlo⟩ := X
  unfold m_const at eq
  cases eq
  exact lv_fconst1 hx hb hdg (k al hL)

theorem m_s_null (hdg : decode cc pc = .ok (.aconst_null, 1)) : m_Snd D cA ra B ro M cc nL ret own nm pc (m_const .null 1) := by
  refine m_pure (by
  intro ls st h x e
  unfold m_const at e
  (repeat' split at e) <;> first | (cases e; done) | (cases e; exact ⟨_, _, _, rfl⟩)) ?_
  intro p l e R s m args below meth c d h0 Q X ls st h pc1 ls1 st1 eq H locs al cells slots hS hH hro hL hcl hsl k
  obtain ⟨hx, hb, hml, hr, hown, hlk, hnm, hts, hW, hsz, hrl, hfr, hlo⟩ := X
  unfold m_const at eq
  cases eq
  exact lv_null hx hb hdg (k al hL)

theorem m_s_ldcf {index : Nat} {v : UInt32} (hw : Cond.constantFloat own index v ∈ m_gd) (hdg : decode cc pc = .ok (.ldc index, 2)) : m_Snd D cA ra B ro M cc nL ret own nm pc (m_const (.float v) 2) := by
  refine m_pure (by
  intro ls st h x e
  unfold m_const at e
  (repeat' split at e) <;> first | (cases e; done) | (cases e; exact ⟨_, _, _, rfl⟩)) ?_
  intro p l e R s m args below meth c d h0 Q X ls st h pc1 ls1 st1 eq H locs al cells slots hS hH hro hL hcl hsl k
  obtain ⟨hx, hb, hml, hr, hown, hlk, hnm, hts, hW, hsz, hrl, hfr, hlo⟩ := X
  unfold m_const at eq
  cases eq
  exact lv_ldcf hx hb hown (hts _ hw) hdg (k al hL)

theorem m_s_ldcw {index : Nat} {v : Int32} (hw : Cond.constant own index v ∈ m_gd) (hdg : decode cc pc = .ok (.ldc_w index, 3)) : m_Snd D cA ra B ro M cc nL ret own nm pc (m_const (.int v) 3) := by
  refine m_pure (by
  intro ls st h x e
  unfold m_const at e
  (repeat' split at e) <;> first | (cases e; done) | (cases e; exact ⟨_, _, _, rfl⟩)) ?_
  intro p l e R s m args below meth c d h0 Q X ls st h pc1 ls1 st1 eq H locs al cells slots hS hH hro hL hcl hsl k
  obtain ⟨hx, hb, hml, hr, hown, hlk, hnm, hts, hW, hsz, hrl, hfr, hlo⟩ := X
  unfold m_const at eq
  cases eq
  exact lv_ldcw hx hb hown (hts _ hw) hdg (k al hL)

theorem m_s_ldci {index : Nat} {v : Int32} (hw : Cond.constant own index v ∈ m_gd) (hdg : decode cc pc = .ok (.ldc index, 2)) : m_Snd D cA ra B ro M cc nL ret own nm pc (m_const (.int v) 2) := by
  refine m_pure (by
  intro ls st h x e
  unfold m_const at e
  (repeat' split at e) <;> first | (cases e; done) | (cases e; exact ⟨_, _, _, rfl⟩)) ?_
  intro p l e R s m args below meth c d h0 Q X ls st h pc1 ls1 st1 eq H locs al cells slots hS hH hro hL hcl hsl k
  obtain ⟨hx, hb, hml, hr, hown, hlk, hnm, hts, hW, hsz, hrl, hfr, hlo⟩ := X
  unfold m_const at eq
  cases eq
  exact lv_ldc hx hb hown (hts _ hw) hdg (k al hL)

theorem m_s_ldc2 {index : Nat} {v : Int64} (hw : Cond.constantLong own index v ∈ m_gd) (hdg : decode cc pc = .ok (.ldc2_w index, 3)) : m_Snd D cA ra B ro M cc nL ret own nm pc (m_const (.long v) 3) := by
  refine m_pure (by
  intro ls st h x e
  unfold m_const at e
  (repeat' split at e) <;> first | (cases e; done) | (cases e; exact ⟨_, _, _, rfl⟩)) ?_
  intro p l e R s m args below meth c d h0 Q X ls st h pc1 ls1 st1 eq H locs al cells slots hS hH hro hL hcl hsl k
  obtain ⟨hx, hb, hml, hr, hown, hlk, hnm, hts, hW, hsz, hrl, hfr, hlo⟩ := X
  unfold m_const at eq
  cases eq
  exact lv_ldc2 hx hb hown (hts _ hw) hdg (k al hL)

theorem m_s_iload_n {k : Fin 4} {i : Nat} (hdg : decode cc pc = .ok (.iload_n k, 1)) (hi : (k : Nat) = i) : m_Snd D cA ra B ro M cc nL ret own nm pc (m_iload i 1) := by
  refine m_pure (by
  intro ls st h x e
  unfold m_iload at e
  (repeat' split at e) <;> first | (cases e; done) | (cases e; exact ⟨_, _, _, rfl⟩)) ?_
  intro p l e R s m args below meth c d h0 Q X ls st h pc1 ls1 st1 eq H locs al cells slots hS hH hro hL hcl hsl k
  obtain ⟨hx, hb, hml, hr, hown, hlk, hnm, hts, hW, hsz, hrl, hfr, hlo⟩ := X
  unfold m_iload at eq
  split at eq
  · rename_i x hq
    cases eq
    exact lv_iload_n hx hb hdg hi (hL.2.2.2 i _ hq) (k al hL)
  · cases eq

theorem m_s_fload_n {k : Fin 4} {i : Nat} (hdg : decode cc pc = .ok (.fload_n k, 1)) (hi : (k : Nat) = i) : m_Snd D cA ra B ro M cc nL ret own nm pc (m_fload i 1) := by
  refine m_pure (by
  intro ls st h x e
  unfold m_fload at e
  (repeat' split at e) <;> first | (cases e; done) | (cases e; exact ⟨_, _, _, rfl⟩)) ?_
  intro p l e R s m args below meth c d h0 Q X ls st h pc1 ls1 st1 eq H locs al cells slots hS hH hro hL hcl hsl k
  obtain ⟨hx, hb, hml, hr, hown, hlk, hnm, hts, hW, hsz, hrl, hfr, hlo⟩ := X
  unfold m_fload at eq
  split at eq
  · rename_i x hq
    cases eq
    exact lv_fload_n hx hb hdg hi (hL.2.2.2 i _ hq) (k al hL)
  · cases eq

theorem m_s_lload_n {k : Fin 4} {i : Nat} (hdg : decode cc pc = .ok (.lload_n k, 1)) (hi : (k : Nat) = i) : m_Snd D cA ra B ro M cc nL ret own nm pc (m_lload i 1) := by
  refine m_pure (by
  intro ls st h x e
  unfold m_lload at e
  (repeat' split at e) <;> first | (cases e; done) | (cases e; exact ⟨_, _, _, rfl⟩)) ?_
  intro p l e R s m args below meth c d h0 Q X ls st h pc1 ls1 st1 eq H locs al cells slots hS hH hro hL hcl hsl k
  obtain ⟨hx, hb, hml, hr, hown, hlk, hnm, hts, hW, hsz, hrl, hfr, hlo⟩ := X
  unfold m_lload at eq
  split at eq
  · rename_i x hq
    cases eq
    exact lv_lload_n hx hb hdg hi (hL.2.2.2 i _ hq) (k al hL)
  · cases eq

theorem m_s_iload {i : Nat} (hdg : decode cc pc = .ok (.iload i, 2)) : m_Snd D cA ra B ro M cc nL ret own nm pc (m_iload i 2) := by
  refine m_pure (by
  intro ls st h x e
  unfold m_iload at e
  (repeat' split at e) <;> first | (cases e; done) | (cases e; exact ⟨_, _, _, rfl⟩)) ?_
  intro p l e R s m args below meth c d h0 Q X ls st h pc1 ls1 st1 eq H locs al cells slots hS hH hro hL hcl hsl k
  obtain ⟨hx, hb, hml, hr, hown, hlk, hnm, hts, hW, hsz, hrl, hfr, hlo⟩ := X
  unfold m_iload at eq
  split at eq
  · rename_i x hq
    cases eq
    exact lv_iload hx hb hdg (hL.2.2.2 i _ hq) (k al hL)
  · cases eq

theorem m_s_fload {i : Nat} (hdg : decode cc pc = .ok (.fload i, 2)) : m_Snd D cA ra B ro M cc nL ret own nm pc (m_fload i 2) := by
  refine m_pure (by
  intro ls st h x e
  unfold m_fload at e
  (repeat' split at e) <;> first | (cases e; done) | (cases e; exact ⟨_, _, _, rfl⟩)) ?_
  intro p l e R s m args below meth c d h0 Q X ls st h pc1 ls1 st1 eq H locs al cells slots hS hH hro hL hcl hsl k
  obtain ⟨hx, hb, hml, hr, hown, hlk, hnm, hts, hW, hsz, hrl, hfr, hlo⟩ := X
  unfold m_fload at eq
  split at eq
  · rename_i x hq
    cases eq
    exact lv_fload hx hb hdg (hL.2.2.2 i _ hq) (k al hL)
  · cases eq

theorem m_s_lload {i : Nat} (hdg : decode cc pc = .ok (.lload i, 2)) : m_Snd D cA ra B ro M cc nL ret own nm pc (m_lload i 2) := by
  refine m_pure (by
  intro ls st h x e
  unfold m_lload at e
  (repeat' split at e) <;> first | (cases e; done) | (cases e; exact ⟨_, _, _, rfl⟩)) ?_
  intro p l e R s m args below meth c d h0 Q X ls st h pc1 ls1 st1 eq H locs al cells slots hS hH hro hL hcl hsl k
  obtain ⟨hx, hb, hml, hr, hown, hlk, hnm, hts, hW, hsz, hrl, hfr, hlo⟩ := X
  unfold m_lload at eq
  split at eq
  · rename_i x hq
    cases eq
    exact lv_lload hx hb hdg (hL.2.2.2 i _ hq) (k al hL)
  · cases eq

theorem m_s_dload {i : Nat} (hdg : decode cc pc = .ok (.dload i, 2)) : m_Snd D cA ra B ro M cc nL ret own nm pc (m_dload i 2) := by
  refine m_pure (by
  intro ls st h x e
  unfold m_dload at e
  (repeat' split at e) <;> first | (cases e; done) | (cases e; exact ⟨_, _, _, rfl⟩)) ?_
  intro p l e R s m args below meth c d h0 Q X ls st h pc1 ls1 st1 eq H locs al cells slots hS hH hro hL hcl hsl k
  obtain ⟨hx, hb, hml, hr, hown, hlk, hnm, hts, hW, hsz, hrl, hfr, hlo⟩ := X
  unfold m_dload at eq
  split at eq
  · rename_i x hq
    cases eq
    exact lv_dload hx hb hdg (hL.2.2.2 i _ hq) (k al hL)
  · cases eq

theorem m_s_aload_n {k : Fin 4} {i : Nat} (hdg : decode cc pc = .ok (.aload_n k, 1)) (hi : (k : Nat) = i) : m_Snd D cA ra B ro M cc nL ret own nm pc (m_aload i 1) := by
  refine m_pure (by
  intro ls st h x e
  unfold m_aload at e
  (repeat' split at e) <;> first | (cases e; done) | (cases e; exact ⟨_, _, _, rfl⟩)) ?_
  intro p l e R s m args below meth c d h0 Q X ls st h pc1 ls1 st1 eq H locs al cells slots hS hH hro hL hcl hsl k
  obtain ⟨hx, hb, hml, hr, hown, hlk, hnm, hts, hW, hsz, hrl, hfr, hlo⟩ := X
  unfold m_aload at eq
  split at eq
  · rename_i x hq
    cases eq
    exact lv_aload_n hx hb hdg hi (hL.2.2.2 i _ hq) (k al hL)
  · rename_i hq
    cases eq
    exact lv_aload_nN hx hb hdg hi (hL.2.2.2 i _ hq) (k al hL)
  · cases eq

theorem m_s_aload {i : Nat} (hdg : decode cc pc = .ok (.aload i, 2)) : m_Snd D cA ra B ro M cc nL ret own nm pc (m_aload i 2) := by
  refine m_pure (by
  intro ls st h x e
  unfold m_aload at e
  (repeat' split at e) <;> first | (cases e; done) | (cases e; exact ⟨_, _, _, rfl⟩)) ?_
  intro p l e R s m args below meth c d h0 Q X ls st h pc1 ls1 st1 eq H locs al cells slots hS hH hro hL hcl hsl k
  obtain ⟨hx, hb, hml, hr, hown, hlk, hnm, hts, hW, hsz, hrl, hfr, hlo⟩ := X
  unfold m_aload at eq
  split at eq
  · rename_i x hq
    cases eq
    exact lv_aload hx hb hdg (hL.2.2.2 i _ hq) (k al hL)
  · rename_i hq
    cases eq
    exact lv_aloadN hx hb hdg (hL.2.2.2 i _ hq) (k al hL)
  · cases eq

theorem m_s_istore_n {k : Fin 4} {i : Nat} (hdg : decode cc pc = .ok (.istore_n k, 1)) (hi : (k : Nat) = i) : m_Snd D cA ra B ro M cc nL ret own nm pc (m_istore i 1) := by
  refine m_pure (by
  intro ls st h x e
  unfold m_istore at e
  (repeat' split at e) <;> first | (cases e; done) | (obtain ⟨_, _, e3⟩ := m_sto_spec e; exact ⟨_, _, _, e3⟩)) ?_
  intro p l e R s m args below meth c d h0 Q X ls st h pc1 ls1 st1 eq H locs al cells slots hS hH hro hL hcl hsl k
  obtain ⟨hx, hb, hml, hr, hown, hlk, hnm, hts, hW, hsz, hrl, hfr, hlo⟩ := X
  unfold m_istore at eq
  split at eq
  · obtain ⟨e1, e2, e3⟩ := m_sto_spec eq
    cases e3
    rw [hL.1] at e2
    exact lv_istore_n hx hb hdg hi hL.has e2 rfl (fun al1 h1 => k al1 (hL.set e1 e2 h1))
  · cases eq

theorem m_s_fstore_n {k : Fin 4} {i : Nat} (hdg : decode cc pc = .ok (.fstore_n k, 1)) (hi : (k : Nat) = i) : m_Snd D cA ra B ro M cc nL ret own nm pc (m_fstore i 1) := by
  refine m_pure (by
  intro ls st h x e
  unfold m_fstore at e
  (repeat' split at e) <;> first | (cases e; done) | (obtain ⟨_, _, e3⟩ := m_sto_spec e; exact ⟨_, _, _, e3⟩)) ?_
  intro p l e R s m args below meth c d h0 Q X ls st h pc1 ls1 st1 eq H locs al cells slots hS hH hro hL hcl hsl k
  obtain ⟨hx, hb, hml, hr, hown, hlk, hnm, hts, hW, hsz, hrl, hfr, hlo⟩ := X
  unfold m_fstore at eq
  split at eq
  · obtain ⟨e1, e2, e3⟩ := m_sto_spec eq
    cases e3
    rw [hL.1] at e2
    exact lv_fstore_n hx hb hdg hi hL.has e2 rfl (fun al1 h1 => k al1 (hL.set e1 e2 h1))
  · cases eq

theorem m_s_fstore {i : Nat} (hdg : decode cc pc = .ok (.fstore i, 2)) : m_Snd D cA ra B ro M cc nL ret own nm pc (m_fstore i 2) := by
  refine m_pure (by
  intro ls st h x e
  unfold m_fstore at e
  (repeat' split at e) <;> first | (cases e; done) | (obtain ⟨_, _, e3⟩ := m_sto_spec e; exact ⟨_, _, _, e3⟩)) ?_
  intro p l e R s m args below meth c d h0 Q X ls st h pc1 ls1 st1 eq H locs al cells slots hS hH hro hL hcl hsl k
  obtain ⟨hx, hb, hml, hr, hown, hlk, hnm, hts, hW, hsz, hrl, hfr, hlo⟩ := X
  unfold m_fstore at eq
  split at eq
  · obtain ⟨e1, e2, e3⟩ := m_sto_spec eq
    cases e3
    rw [hL.1] at e2
    exact lv_fstore hx hb hdg hL.has e2 rfl (fun al1 h1 => k al1 (hL.set e1 e2 h1))
  · cases eq

theorem m_s_istore {i : Nat} (hdg : decode cc pc = .ok (.istore i, 2)) : m_Snd D cA ra B ro M cc nL ret own nm pc (m_istore i 2) := by
  refine m_pure (by
  intro ls st h x e
  unfold m_istore at e
  (repeat' split at e) <;> first | (cases e; done) | (obtain ⟨_, _, e3⟩ := m_sto_spec e; exact ⟨_, _, _, e3⟩)) ?_
  intro p l e R s m args below meth c d h0 Q X ls st h pc1 ls1 st1 eq H locs al cells slots hS hH hro hL hcl hsl k
  obtain ⟨hx, hb, hml, hr, hown, hlk, hnm, hts, hW, hsz, hrl, hfr, hlo⟩ := X
  unfold m_istore at eq
  split at eq
  · obtain ⟨e1, e2, e3⟩ := m_sto_spec eq
    cases e3
    rw [hL.1] at e2
    exact lv_istore hx hb hdg hL.has e2 rfl (fun al1 h1 => k al1 (hL.set e1 e2 h1))
  · cases eq

theorem m_s_astore_n {k : Fin 4} {i : Nat} (hdg : decode cc pc = .ok (.astore_n k, 1)) (hi : (k : Nat) = i) : m_Snd D cA ra B ro M cc nL ret own nm pc (m_astore i 1) := by
  refine m_pure (by
  intro ls st h x e
  unfold m_astore at e
  (repeat' split at e) <;> first | (cases e; done) | (obtain ⟨_, _, e3⟩ := m_sto_spec e; exact ⟨_, _, _, e3⟩)) ?_
  intro p l e R s m args below meth c d h0 Q X ls st h pc1 ls1 st1 eq H locs al cells slots hS hH hro hL hcl hsl k
  obtain ⟨hx, hb, hml, hr, hown, hlk, hnm, hts, hW, hsz, hrl, hfr, hlo⟩ := X
  unfold m_astore at eq
  split at eq
  · obtain ⟨e1, e2, e3⟩ := m_sto_spec eq
    cases e3
    rw [hL.1] at e2
    exact lv_astore_n hx hb hdg hi hL.has e2 rfl (fun al1 h1 => k al1 (hL.set e1 e2 h1))
  · obtain ⟨e1, e2, e3⟩ := m_sto_spec eq
    cases e3
    rw [hL.1] at e2
    exact lv_astore_nN hx hb hdg hi hL.has e2 rfl (fun al1 h1 => k al1 (hL.set e1 e2 h1))
  · cases eq

theorem m_s_astore {i : Nat} (hdg : decode cc pc = .ok (.astore i, 2)) : m_Snd D cA ra B ro M cc nL ret own nm pc (m_astore i 2) := by
  refine m_pure (by
  intro ls st h x e
  unfold m_astore at e
  (repeat' split at e) <;> first | (cases e; done) | (obtain ⟨_, _, e3⟩ := m_sto_spec e; exact ⟨_, _, _, e3⟩)) ?_
  intro p l e R s m args below meth c d h0 Q X ls st h pc1 ls1 st1 eq H locs al cells slots hS hH hro hL hcl hsl k
  obtain ⟨hx, hb, hml, hr, hown, hlk, hnm, hts, hW, hsz, hrl, hfr, hlo⟩ := X
  unfold m_astore at eq
  split at eq
  · obtain ⟨e1, e2, e3⟩ := m_sto_spec eq
    cases e3
    rw [hL.1] at e2
    exact lv_astore hx hb hdg hL.has e2 rfl (fun al1 h1 => k al1 (hL.set e1 e2 h1))
  · obtain ⟨e1, e2, e3⟩ := m_sto_spec eq
    cases e3
    rw [hL.1] at e2
    exact lv_astoreN hx hb hdg hL.has e2 rfl (fun al1 h1 => k al1 (hL.set e1 e2 h1))
  · cases eq

theorem m_dsto_spec {i : Nat} {x0 : UInt64} {st : List Value} {ls : m_Ls} {h : m_Hp} {x : m_Res} (e : m_dstore i 2 pc ls (.double x0 :: st) h = some x) : m_ok ls i = true ∧ i + 1 < ls.length ∧ x = .inl (pc + 2, (ls.set (i + 1) none).set i (some (.double x0)), st, h) := by
  unfold m_dstore at e
  dsimp only at e
  cases hc : (m_ok ls i && Nat.blt (i + 1) ls.length) with
  | false => rw [hc] at e; cases e
  | true =>
    rw [hc] at e
    cases e
    rw [Bool.and_eq_true] at hc
    exact ⟨hc.1, by have := hc.2; rw [Nat.blt_eq] at this; exact this, rfl⟩
theorem m_s_dstore {i : Nat} (hdg : decode cc pc = .ok (.dstore i, 2)) : m_Snd D cA ra B ro M cc nL ret own nm pc (m_dstore i 2) := by
  refine m_pure (fun ls st h x e => ?_) ?_
  · match st, e with
    | .double x0 :: st, e =>
      obtain ⟨_, _, e3⟩ := m_dsto_spec e
      exact ⟨_, _, _, e3⟩
  intro p l e R s m args below meth c d h0 Q X ls st h pc1 ls1 st1 eq H locs al cells slots hS hH hro hL hcl hsl k
  obtain ⟨hx, hb, hml, hr, hown, hlk, hnm, hts, hW, hsz, hrl, hfr, hlo⟩ := X
  match st, eq with
  | .double x0 :: st, eq =>
    obtain ⟨e1, e2, e3⟩ := m_dsto_spec eq
    cases e3
    rw [hL.1] at e2
    exact lv_dstore hx hb hdg hL.has e2 rfl (fun al1 h1 => k al1 (hL.set2 e1 e2 h1))
theorem m_lsto_spec {i n : Nat} {x0 : Int64} {st : List Value} {ls : m_Ls} {h : m_Hp} {x : m_Res} (e : m_lstore i n pc ls (.long x0 :: st) h = some x) : m_ok ls i = true ∧ i + 1 < ls.length ∧ x = .inl (pc + n, (ls.set (i + 1) none).set i (some (.long x0)), st, h) := by
  unfold m_lstore at e
  dsimp only at e
  cases hc : (m_ok ls i && Nat.blt (i + 1) ls.length) with
  | false => rw [hc] at e; cases e
  | true =>
    rw [hc] at e
    cases e
    rw [Bool.and_eq_true] at hc
    exact ⟨hc.1, by have := hc.2; rw [Nat.blt_eq] at this; exact this, rfl⟩
theorem m_s_lstore {i : Nat} (hdg : decode cc pc = .ok (.lstore i, 2)) : m_Snd D cA ra B ro M cc nL ret own nm pc (m_lstore i 2) := by
  refine m_pure (fun ls st h x e => ?_) ?_
  · match st, e with
    | .long x0 :: st, e =>
      obtain ⟨_, _, e3⟩ := m_lsto_spec e
      exact ⟨_, _, _, e3⟩
  intro p l e R s m args below meth c d h0 Q X ls st h pc1 ls1 st1 eq H locs al cells slots hS hH hro hL hcl hsl k
  obtain ⟨hx, hb, hml, hr, hown, hlk, hnm, hts, hW, hsz, hrl, hfr, hlo⟩ := X
  match st, eq with
  | .long x0 :: st, eq =>
    obtain ⟨e1, e2, e3⟩ := m_lsto_spec eq
    cases e3
    rw [hL.1] at e2
    exact lv_lstore hx hb hdg hL.has e2 rfl (fun al1 h1 => k al1 (hL.set2 e1 e2 h1))
theorem m_s_lstore_n {k : Fin 4} {i : Nat} (hdg : decode cc pc = .ok (.lstore_n k, 1)) (hi : (k : Nat) = i) : m_Snd D cA ra B ro M cc nL ret own nm pc (m_lstore i 1) := by
  refine m_pure (fun ls st h x e => ?_) ?_
  · match st, e with
    | .long x0 :: st, e =>
      obtain ⟨_, _, e3⟩ := m_lsto_spec e
      exact ⟨_, _, _, e3⟩
  intro p l e R s m args below meth c d h0 Q X ls st h pc1 ls1 st1 eq H locs al cells slots hS hH hro hL hcl hsl kk
  obtain ⟨hx, hb, hml, hr, hown, hlk, hnm, hts, hW, hsz, hrl, hfr, hlo⟩ := X
  match st, eq with
  | .long x0 :: st, eq =>
    obtain ⟨e1, e2, e3⟩ := m_lsto_spec eq
    cases e3
    rw [hL.1] at e2
    exact lv_lstore_n hx hb hdg hi hL.has e2 rfl (fun al1 h1 => kk al1 (hL.set2 e1 e2 h1))
theorem m_s_iinc {i : Nat} {n : Int} {v : Int32} (hdg : decode cc pc = .ok (.iinc i n, 3)) (hv : Int32.ofInt n = v) : m_Snd D cA ra B ro M cc nL ret own nm pc (m_iinc i v) := by
  subst hv
  refine m_pure (fun ls st h x e => ?_) ?_
  · unfold m_iinc at e
    split at e
    · obtain ⟨_, _, e3⟩ := m_sto_spec e
      exact ⟨_, _, _, e3⟩
    · cases e
  intro p l e R s m args below meth c d h0 Q X ls st h pc1 ls1 st1 eq H locs al cells slots hS hH hro hL hcl hsl k
  obtain ⟨hx, hb, hml, hr, hown, hlk, hnm, hts, hW, hsz, hrl, hfr, hlo⟩ := X
  unfold m_iinc at eq
  split at eq
  · rename_i x hq
    obtain ⟨e1, e2, e3⟩ := m_sto_spec eq
    cases e3
    rw [hL.1] at e2
    have hmem : (i, m_cv ra B (.int x)) ∈ m_lvl ra B 0 ls := (m_lvl_mem ls 0 _).mpr ⟨i, _, hq, by rw [Nat.zero_add]⟩
    obtain ⟨kk, hkk⟩ := List.getElem?_of_mem hmem
    exact lv_iinc (v := x + Int32.ofInt n) hx hb hdg hL.has hkk rfl e2 rfl (fun al1 h1 => k al1 (hL.set (v := .int (x + Int32.ofInt n)) e1 e2 h1))
  · cases eq

theorem m_s_iadd (hdg : decode cc pc = .ok (.iadd, 1)) : m_Snd D cA ra B ro M cc nL ret own nm pc (m_bin (fun a b => a + b)) := by
  refine m_pure (by
  intro ls st h x e
  unfold m_bin at e
  (repeat' split at e) <;> first | (cases e; done) | (cases e; exact ⟨_, _, _, rfl⟩)) ?_
  intro p l e R s m args below meth c d h0 Q X ls st h pc1 ls1 st1 eq H locs al cells slots hS hH hro hL hcl hsl k
  obtain ⟨hx, hb, hml, hr, hown, hlk, hnm, hts, hW, hsz, hrl, hfr, hlo⟩ := X
  unfold m_bin at eq
  split at eq
  · cases eq
    exact lv_iadd hx hb hdg (k al hL)
  · cases eq

theorem m_s_isub (hdg : decode cc pc = .ok (.isub, 1)) : m_Snd D cA ra B ro M cc nL ret own nm pc (m_bin (fun a b => a - b)) := by
  refine m_pure (by
  intro ls st h x e
  unfold m_bin at e
  (repeat' split at e) <;> first | (cases e; done) | (cases e; exact ⟨_, _, _, rfl⟩)) ?_
  intro p l e R s m args below meth c d h0 Q X ls st h pc1 ls1 st1 eq H locs al cells slots hS hH hro hL hcl hsl k
  obtain ⟨hx, hb, hml, hr, hown, hlk, hnm, hts, hW, hsz, hrl, hfr, hlo⟩ := X
  unfold m_bin at eq
  split at eq
  · cases eq
    exact lv_isub hx hb hdg (k al hL)
  · cases eq

theorem m_s_imul (hdg : decode cc pc = .ok (.imul, 1)) : m_Snd D cA ra B ro M cc nL ret own nm pc (m_bin (fun a b => a * b)) := by
  refine m_pure (by
  intro ls st h x e
  unfold m_bin at e
  (repeat' split at e) <;> first | (cases e; done) | (cases e; exact ⟨_, _, _, rfl⟩)) ?_
  intro p l e R s m args below meth c d h0 Q X ls st h pc1 ls1 st1 eq H locs al cells slots hS hH hro hL hcl hsl k
  obtain ⟨hx, hb, hml, hr, hown, hlk, hnm, hts, hW, hsz, hrl, hfr, hlo⟩ := X
  unfold m_bin at eq
  split at eq
  · cases eq
    exact lv_imul hx hb hdg (k al hL)
  · cases eq

theorem m_s_iand (hdg : decode cc pc = .ok (.iand, 1)) : m_Snd D cA ra B ro M cc nL ret own nm pc (m_bin (fun a b => a &&& b)) := by
  refine m_pure (by
  intro ls st h x e
  unfold m_bin at e
  (repeat' split at e) <;> first | (cases e; done) | (cases e; exact ⟨_, _, _, rfl⟩)) ?_
  intro p l e R s m args below meth c d h0 Q X ls st h pc1 ls1 st1 eq H locs al cells slots hS hH hro hL hcl hsl k
  obtain ⟨hx, hb, hml, hr, hown, hlk, hnm, hts, hW, hsz, hrl, hfr, hlo⟩ := X
  unfold m_bin at eq
  split at eq
  · cases eq
    exact lv_iand hx hb hdg (k al hL)
  · cases eq

theorem m_s_ior (hdg : decode cc pc = .ok (.ior, 1)) : m_Snd D cA ra B ro M cc nL ret own nm pc (m_bin (fun a b => a ||| b)) := by
  refine m_pure (by
  intro ls st h x e
  unfold m_bin at e
  (repeat' split at e) <;> first | (cases e; done) | (cases e; exact ⟨_, _, _, rfl⟩)) ?_
  intro p l e R s m args below meth c d h0 Q X ls st h pc1 ls1 st1 eq H locs al cells slots hS hH hro hL hcl hsl k
  obtain ⟨hx, hb, hml, hr, hown, hlk, hnm, hts, hW, hsz, hrl, hfr, hlo⟩ := X
  unfold m_bin at eq
  split at eq
  · cases eq
    exact lv_ior hx hb hdg (k al hL)
  · cases eq

theorem m_s_ixor (hdg : decode cc pc = .ok (.ixor, 1)) : m_Snd D cA ra B ro M cc nL ret own nm pc (m_bin (fun a b => a ^^^ b)) := by
  refine m_pure (by
  intro ls st h x e
  unfold m_bin at e
  (repeat' split at e) <;> first | (cases e; done) | (cases e; exact ⟨_, _, _, rfl⟩)) ?_
  intro p l e R s m args below meth c d h0 Q X ls st h pc1 ls1 st1 eq H locs al cells slots hS hH hro hL hcl hsl k
  obtain ⟨hx, hb, hml, hr, hown, hlk, hnm, hts, hW, hsz, hrl, hfr, hlo⟩ := X
  unfold m_bin at eq
  split at eq
  · cases eq
    exact lv_ixor hx hb hdg (k al hL)
  · cases eq

theorem m_s_ishl (hdg : decode cc pc = .ok (.ishl, 1)) : m_Snd D cA ra B ro M cc nL ret own nm pc (m_bin (fun a b => a <<< (b &&& 31))) := by
  refine m_pure (by
  intro ls st h x e
  unfold m_bin at e
  (repeat' split at e) <;> first | (cases e; done) | (cases e; exact ⟨_, _, _, rfl⟩)) ?_
  intro p l e R s m args below meth c d h0 Q X ls st h pc1 ls1 st1 eq H locs al cells slots hS hH hro hL hcl hsl k
  obtain ⟨hx, hb, hml, hr, hown, hlk, hnm, hts, hW, hsz, hrl, hfr, hlo⟩ := X
  unfold m_bin at eq
  split at eq
  · cases eq
    exact lv_ishl hx hb hdg (k al hL)
  · cases eq

theorem m_s_ishr (hdg : decode cc pc = .ok (.ishr, 1)) : m_Snd D cA ra B ro M cc nL ret own nm pc (m_bin (fun a b => a >>> (b &&& 31))) := by
  refine m_pure (by
  intro ls st h x e
  unfold m_bin at e
  (repeat' split at e) <;> first | (cases e; done) | (cases e; exact ⟨_, _, _, rfl⟩)) ?_
  intro p l e R s m args below meth c d h0 Q X ls st h pc1 ls1 st1 eq H locs al cells slots hS hH hro hL hcl hsl k
  obtain ⟨hx, hb, hml, hr, hown, hlk, hnm, hts, hW, hsz, hrl, hfr, hlo⟩ := X
  unfold m_bin at eq
  split at eq
  · cases eq
    exact lv_ishr hx hb hdg (k al hL)
  · cases eq

theorem m_s_iushr (hdg : decode cc pc = .ok (.iushr, 1)) : m_Snd D cA ra B ro M cc nL ret own nm pc (m_bin (fun a b => (a.toUInt32 >>> (b.toUInt32 &&& Int32.toUInt32 31)).toInt32)) := by
  refine m_pure (by
  intro ls st h x e
  unfold m_bin at e
  (repeat' split at e) <;> first | (cases e; done) | (cases e; exact ⟨_, _, _, rfl⟩)) ?_
  intro p l e R s m args below meth c d h0 Q X ls st h pc1 ls1 st1 eq H locs al cells slots hS hH hro hL hcl hsl k
  obtain ⟨hx, hb, hml, hr, hown, hlk, hnm, hts, hW, hsz, hrl, hfr, hlo⟩ := X
  unfold m_bin at eq
  split at eq
  · cases eq
    exact lv_iushr hx hb hdg rfl (k al hL)
  · cases eq

theorem m_s_ineg (hdg : decode cc pc = .ok (.ineg, 1)) : m_Snd D cA ra B ro M cc nL ret own nm pc (m_un (fun a => -a)) := by
  refine m_pure (by
  intro ls st h x e
  unfold m_un at e
  (repeat' split at e) <;> first | (cases e; done) | (cases e; exact ⟨_, _, _, rfl⟩)) ?_
  intro p l e R s m args below meth c d h0 Q X ls st h pc1 ls1 st1 eq H locs al cells slots hS hH hro hL hcl hsl k
  obtain ⟨hx, hb, hml, hr, hown, hlk, hnm, hts, hW, hsz, hrl, hfr, hlo⟩ := X
  unfold m_un at eq
  split at eq
  · cases eq
    exact lv_ineg hx hb hdg (k al hL)
  · cases eq

theorem m_s_i2c (hdg : decode cc pc = .ok (.i2c, 1)) : m_Snd D cA ra B ro M cc nL ret own nm pc (m_un (fun a => (a.toUInt32 % 65536).toInt32)) := by
  refine m_pure (by
  intro ls st h x e
  unfold m_un at e
  (repeat' split at e) <;> first | (cases e; done) | (cases e; exact ⟨_, _, _, rfl⟩)) ?_
  intro p l e R s m args below meth c d h0 Q X ls st h pc1 ls1 st1 eq H locs al cells slots hS hH hro hL hcl hsl k
  obtain ⟨hx, hb, hml, hr, hown, hlk, hnm, hts, hW, hsz, hrl, hfr, hlo⟩ := X
  unfold m_un at eq
  split at eq
  · cases eq
    exact lv_i2c hx hb hdg rfl (k al hL)
  · cases eq

theorem m_s_idiv (hdg : decode cc pc = .ok (.idiv, 1)) : m_Snd D cA ra B ro M cc nL ret own nm pc (m_div (fun a b => a / b)) := by
  refine m_pure (by
  intro ls st h x e
  unfold m_div at e
  (repeat' split at e) <;> first | (cases e; done) | (cases e; exact ⟨_, _, _, rfl⟩)) ?_
  intro p l e R s m args below meth c d h0 Q X ls st h pc1 ls1 st1 eq H locs al cells slots hS hH hro hL hcl hsl k
  obtain ⟨hx, hb, hml, hr, hown, hlk, hnm, hts, hW, hsz, hrl, hfr, hlo⟩ := X
  unfold m_div at eq
  split at eq
  · split at eq
    · cases eq
    · rename_i hne
      cases eq
      exact lv_idiv hx hb hdg hne (k al hL)
  · cases eq

theorem m_s_irem (hdg : decode cc pc = .ok (.irem, 1)) : m_Snd D cA ra B ro M cc nL ret own nm pc (m_div (fun a b => a - a / b * b)) := by
  refine m_pure (by
  intro ls st h x e
  unfold m_div at e
  (repeat' split at e) <;> first | (cases e; done) | (cases e; exact ⟨_, _, _, rfl⟩)) ?_
  intro p l e R s m args below meth c d h0 Q X ls st h pc1 ls1 st1 eq H locs al cells slots hS hH hro hL hcl hsl k
  obtain ⟨hx, hb, hml, hr, hown, hlk, hnm, hts, hW, hsz, hrl, hfr, hlo⟩ := X
  unfold m_div at eq
  split at eq
  · split at eq
    · cases eq
    · rename_i hne
      cases eq
      exact lv_irem hx hb hdg hne (k al hL)
  · cases eq

theorem m_s_dup (hdg : decode cc pc = .ok (.dup, 1)) : m_Snd D cA ra B ro M cc nL ret own nm pc (m_dup) := by
  refine m_pure (by
  intro ls st h x e
  unfold m_dup at e
  (repeat' split at e) <;> first | (cases e; done) | (cases e; exact ⟨_, _, _, rfl⟩)) ?_
  intro p l e R s m args below meth c d h0 Q X ls st h pc1 ls1 st1 eq H locs al cells slots hS hH hro hL hcl hsl k
  obtain ⟨hx, hb, hml, hr, hown, hlk, hnm, hts, hW, hsz, hrl, hfr, hlo⟩ := X
  unfold m_dup at eq
  split at eq
  · cases eq
    exact lv_dup hx hb hdg rfl (k al hL)
  · cases eq
    exact lv_dup hx hb hdg rfl (k al hL)
  · cases eq

theorem m_s_dup2 (hdg : decode cc pc = .ok (.dup2, 1)) : m_Snd D cA ra B ro M cc nL ret own nm pc (m_dup2) := by
  refine m_pure (by
  intro ls st h x e
  unfold m_dup2 at e
  (repeat' split at e) <;> first | (cases e; done) | (cases e; exact ⟨_, _, _, rfl⟩)) ?_
  intro p l e R s m args below meth c d h0 Q X ls st h pc1 ls1 st1 eq H locs al cells slots hS hH hro hL hcl hsl k
  obtain ⟨hx, hb, hml, hr, hown, hlk, hnm, hts, hW, hsz, hrl, hfr, hlo⟩ := X
  unfold m_dup2 at eq
  split at eq
  · cases eq
    exact lv_dup2_11 hx hb hdg rfl rfl (k al hL)
  · cases eq

theorem m_s_if_eq {off : Int} {t : Nat} (hdg : decode cc pc = .ok (.ifCond .eq off, 3)) (ht : (pc : Int) + off = (t : Int)) : m_Snd D cA ra B ro M cc nL ret own nm pc (m_if (fun x => x == 0) t) := by
  refine m_pure (by
  intro ls st h x e
  unfold m_if at e
  (repeat' split at e) <;> first | (cases e; done) | (cases e; exact ⟨_, _, _, rfl⟩)) ?_
  intro p l e R s m args below meth c d h0 Q X ls st h pc1 ls1 st1 eq H locs al cells slots hS hH hro hL hcl hsl k
  obtain ⟨hx, hb, hml, hr, hown, hlk, hnm, hts, hW, hsz, hrl, hfr, hlo⟩ := X
  unfold m_if at eq
  split at eq
  · rename_i x st2
    simp only [Option.some.injEq, Sum.inl.injEq, Prod.mk.injEq] at eq
    obtain ⟨e1, e2, e3, -⟩ := eq
    subst e2 e3
    refine lv_if_eq (tgt := t) hx hb hdg ht (fun hc => ?_) (fun hc => ?_)
    · rw [if_pos (by simpa using hc)] at e1
      subst e1
      exact k al hL
    · rw [if_neg (by simpa using hc)] at e1
      subst e1
      exact k al hL
  · cases eq

theorem m_s_icmp_eq {off : Int} {t : Nat} (hdg : decode cc pc = .ok (.if_icmp .eq off, 3)) (ht : (pc : Int) + off = (t : Int)) : m_Snd D cA ra B ro M cc nL ret own nm pc (m_icmp (fun x y => x == y) t) := by
  refine m_pure (by
  intro ls st h x e
  unfold m_icmp at e
  (repeat' split at e) <;> first | (cases e; done) | (cases e; exact ⟨_, _, _, rfl⟩)) ?_
  intro p l e R s m args below meth c d h0 Q X ls st h pc1 ls1 st1 eq H locs al cells slots hS hH hro hL hcl hsl k
  obtain ⟨hx, hb, hml, hr, hown, hlk, hnm, hts, hW, hsz, hrl, hfr, hlo⟩ := X
  unfold m_icmp at eq
  split at eq
  · rename_i y x st2
    simp only [Option.some.injEq, Sum.inl.injEq, Prod.mk.injEq] at eq
    obtain ⟨e1, e2, e3, -⟩ := eq
    subst e2 e3
    refine lv_icmp_eq (tgt := t) hx hb hdg ht (fun hc => ?_) (fun hc => ?_)
    · rw [if_pos (by simpa using hc)] at e1
      subst e1
      exact k al hL
    · rw [if_neg (by simpa using hc)] at e1
      subst e1
      exact k al hL
  · cases eq

theorem m_s_if_ne {off : Int} {t : Nat} (hdg : decode cc pc = .ok (.ifCond .ne off, 3)) (ht : (pc : Int) + off = (t : Int)) : m_Snd D cA ra B ro M cc nL ret own nm pc (m_if (fun x => !(x == 0)) t) := by
  refine m_pure (by
  intro ls st h x e
  unfold m_if at e
  (repeat' split at e) <;> first | (cases e; done) | (cases e; exact ⟨_, _, _, rfl⟩)) ?_
  intro p l e R s m args below meth c d h0 Q X ls st h pc1 ls1 st1 eq H locs al cells slots hS hH hro hL hcl hsl k
  obtain ⟨hx, hb, hml, hr, hown, hlk, hnm, hts, hW, hsz, hrl, hfr, hlo⟩ := X
  unfold m_if at eq
  split at eq
  · rename_i x st2
    simp only [Option.some.injEq, Sum.inl.injEq, Prod.mk.injEq] at eq
    obtain ⟨e1, e2, e3, -⟩ := eq
    subst e2 e3
    refine lv_if_ne (tgt := t) hx hb hdg ht (fun hc => ?_) (fun hc => ?_)
    · rw [if_pos (by simpa using hc)] at e1
      subst e1
      exact k al hL
    · rw [if_neg (by simpa using hc)] at e1
      subst e1
      exact k al hL
  · cases eq

theorem m_s_icmp_ne {off : Int} {t : Nat} (hdg : decode cc pc = .ok (.if_icmp .ne off, 3)) (ht : (pc : Int) + off = (t : Int)) : m_Snd D cA ra B ro M cc nL ret own nm pc (m_icmp (fun x y => !(x == y)) t) := by
  refine m_pure (by
  intro ls st h x e
  unfold m_icmp at e
  (repeat' split at e) <;> first | (cases e; done) | (cases e; exact ⟨_, _, _, rfl⟩)) ?_
  intro p l e R s m args below meth c d h0 Q X ls st h pc1 ls1 st1 eq H locs al cells slots hS hH hro hL hcl hsl k
  obtain ⟨hx, hb, hml, hr, hown, hlk, hnm, hts, hW, hsz, hrl, hfr, hlo⟩ := X
  unfold m_icmp at eq
  split at eq
  · rename_i y x st2
    simp only [Option.some.injEq, Sum.inl.injEq, Prod.mk.injEq] at eq
    obtain ⟨e1, e2, e3, -⟩ := eq
    subst e2 e3
    refine lv_icmp_ne (tgt := t) hx hb hdg ht (fun hc => ?_) (fun hc => ?_)
    · rw [if_pos (by simpa using hc)] at e1
      subst e1
      exact k al hL
    · rw [if_neg (by simpa using hc)] at e1
      subst e1
      exact k al hL
  · cases eq

theorem m_s_if_lt {off : Int} {t : Nat} (hdg : decode cc pc = .ok (.ifCond .lt off, 3)) (ht : (pc : Int) + off = (t : Int)) : m_Snd D cA ra B ro M cc nL ret own nm pc (m_if (fun x => decide (x < 0)) t) := by
  refine m_pure (by
  intro ls st h x e
  unfold m_if at e
  (repeat' split at e) <;> first | (cases e; done) | (cases e; exact ⟨_, _, _, rfl⟩)) ?_
  intro p l e R s m args below meth c d h0 Q X ls st h pc1 ls1 st1 eq H locs al cells slots hS hH hro hL hcl hsl k
  obtain ⟨hx, hb, hml, hr, hown, hlk, hnm, hts, hW, hsz, hrl, hfr, hlo⟩ := X
  unfold m_if at eq
  split at eq
  · rename_i x st2
    simp only [Option.some.injEq, Sum.inl.injEq, Prod.mk.injEq] at eq
    obtain ⟨e1, e2, e3, -⟩ := eq
    subst e2 e3
    refine lv_if_lt (tgt := t) hx hb hdg ht (fun hc => ?_) (fun hc => ?_)
    · rw [if_pos (by simpa using hc)] at e1
      subst e1
      exact k al hL
    · rw [if_neg (by simpa using hc)] at e1
      subst e1
      exact k al hL
  · cases eq

theorem m_s_icmp_lt {off : Int} {t : Nat} (hdg : decode cc pc = .ok (.if_icmp .lt off, 3)) (ht : (pc : Int) + off = (t : Int)) : m_Snd D cA ra B ro M cc nL ret own nm pc (m_icmp (fun x y => decide (x < y)) t) := by
  refine m_pure (by
  intro ls st h x e
  unfold m_icmp at e
  (repeat' split at e) <;> first | (cases e; done) | (cases e; exact ⟨_, _, _, rfl⟩)) ?_
  intro p l e R s m args below meth c d h0 Q X ls st h pc1 ls1 st1 eq H locs al cells slots hS hH hro hL hcl hsl k
  obtain ⟨hx, hb, hml, hr, hown, hlk, hnm, hts, hW, hsz, hrl, hfr, hlo⟩ := X
  unfold m_icmp at eq
  split at eq
  · rename_i y x st2
    simp only [Option.some.injEq, Sum.inl.injEq, Prod.mk.injEq] at eq
    obtain ⟨e1, e2, e3, -⟩ := eq
    subst e2 e3
    refine lv_icmp_lt (tgt := t) hx hb hdg ht (fun hc => ?_) (fun hc => ?_)
    · rw [if_pos (by simpa using hc)] at e1
      subst e1
      exact k al hL
    · rw [if_neg (by simpa using hc)] at e1
      subst e1
      exact k al hL
  · cases eq

theorem m_s_if_ge {off : Int} {t : Nat} (hdg : decode cc pc = .ok (.ifCond .ge off, 3)) (ht : (pc : Int) + off = (t : Int)) : m_Snd D cA ra B ro M cc nL ret own nm pc (m_if (fun x => decide (0 ≤ x)) t) := by
  refine m_pure (by
  intro ls st h x e
  unfold m_if at e
  (repeat' split at e) <;> first | (cases e; done) | (cases e; exact ⟨_, _, _, rfl⟩)) ?_
  intro p l e R s m args below meth c d h0 Q X ls st h pc1 ls1 st1 eq H locs al cells slots hS hH hro hL hcl hsl k
  obtain ⟨hx, hb, hml, hr, hown, hlk, hnm, hts, hW, hsz, hrl, hfr, hlo⟩ := X
  unfold m_if at eq
  split at eq
  · rename_i x st2
    simp only [Option.some.injEq, Sum.inl.injEq, Prod.mk.injEq] at eq
    obtain ⟨e1, e2, e3, -⟩ := eq
    subst e2 e3
    refine lv_if_ge (tgt := t) hx hb hdg ht (fun hc => ?_) (fun hc => ?_)
    · rw [if_pos (by simpa using hc)] at e1
      subst e1
      exact k al hL
    · rw [if_neg (by simpa using hc)] at e1
      subst e1
      exact k al hL
  · cases eq

theorem m_s_icmp_ge {off : Int} {t : Nat} (hdg : decode cc pc = .ok (.if_icmp .ge off, 3)) (ht : (pc : Int) + off = (t : Int)) : m_Snd D cA ra B ro M cc nL ret own nm pc (m_icmp (fun x y => decide (y ≤ x)) t) := by
  refine m_pure (by
  intro ls st h x e
  unfold m_icmp at e
  (repeat' split at e) <;> first | (cases e; done) | (cases e; exact ⟨_, _, _, rfl⟩)) ?_
  intro p l e R s m args below meth c d h0 Q X ls st h pc1 ls1 st1 eq H locs al cells slots hS hH hro hL hcl hsl k
  obtain ⟨hx, hb, hml, hr, hown, hlk, hnm, hts, hW, hsz, hrl, hfr, hlo⟩ := X
  unfold m_icmp at eq
  split at eq
  · rename_i y x st2
    simp only [Option.some.injEq, Sum.inl.injEq, Prod.mk.injEq] at eq
    obtain ⟨e1, e2, e3, -⟩ := eq
    subst e2 e3
    refine lv_icmp_ge (tgt := t) hx hb hdg ht (fun hc => ?_) (fun hc => ?_)
    · rw [if_pos (by simpa using hc)] at e1
      subst e1
      exact k al hL
    · rw [if_neg (by simpa using hc)] at e1
      subst e1
      exact k al hL
  · cases eq

theorem m_s_if_gt {off : Int} {t : Nat} (hdg : decode cc pc = .ok (.ifCond .gt off, 3)) (ht : (pc : Int) + off = (t : Int)) : m_Snd D cA ra B ro M cc nL ret own nm pc (m_if (fun x => decide (0 < x)) t) := by
  refine m_pure (by
  intro ls st h x e
  unfold m_if at e
  (repeat' split at e) <;> first | (cases e; done) | (cases e; exact ⟨_, _, _, rfl⟩)) ?_
  intro p l e R s m args below meth c d h0 Q X ls st h pc1 ls1 st1 eq H locs al cells slots hS hH hro hL hcl hsl k
  obtain ⟨hx, hb, hml, hr, hown, hlk, hnm, hts, hW, hsz, hrl, hfr, hlo⟩ := X
  unfold m_if at eq
  split at eq
  · rename_i x st2
    simp only [Option.some.injEq, Sum.inl.injEq, Prod.mk.injEq] at eq
    obtain ⟨e1, e2, e3, -⟩ := eq
    subst e2 e3
    refine lv_if_gt (tgt := t) hx hb hdg ht (fun hc => ?_) (fun hc => ?_)
    · rw [if_pos (by simpa using hc)] at e1
      subst e1
      exact k al hL
    · rw [if_neg (by simpa using hc)] at e1
      subst e1
      exact k al hL
  · cases eq

theorem m_s_icmp_gt {off : Int} {t : Nat} (hdg : decode cc pc = .ok (.if_icmp .gt off, 3)) (ht : (pc : Int) + off = (t : Int)) : m_Snd D cA ra B ro M cc nL ret own nm pc (m_icmp (fun x y => decide (y < x)) t) := by
  refine m_pure (by
  intro ls st h x e
  unfold m_icmp at e
  (repeat' split at e) <;> first | (cases e; done) | (cases e; exact ⟨_, _, _, rfl⟩)) ?_
  intro p l e R s m args below meth c d h0 Q X ls st h pc1 ls1 st1 eq H locs al cells slots hS hH hro hL hcl hsl k
  obtain ⟨hx, hb, hml, hr, hown, hlk, hnm, hts, hW, hsz, hrl, hfr, hlo⟩ := X
  unfold m_icmp at eq
  split at eq
  · rename_i y x st2
    simp only [Option.some.injEq, Sum.inl.injEq, Prod.mk.injEq] at eq
    obtain ⟨e1, e2, e3, -⟩ := eq
    subst e2 e3
    refine lv_icmp_gt (tgt := t) hx hb hdg ht (fun hc => ?_) (fun hc => ?_)
    · rw [if_pos (by simpa using hc)] at e1
      subst e1
      exact k al hL
    · rw [if_neg (by simpa using hc)] at e1
      subst e1
      exact k al hL
  · cases eq

theorem m_s_if_le {off : Int} {t : Nat} (hdg : decode cc pc = .ok (.ifCond .le off, 3)) (ht : (pc : Int) + off = (t : Int)) : m_Snd D cA ra B ro M cc nL ret own nm pc (m_if (fun x => decide (x ≤ 0)) t) := by
  refine m_pure (by
  intro ls st h x e
  unfold m_if at e
  (repeat' split at e) <;> first | (cases e; done) | (cases e; exact ⟨_, _, _, rfl⟩)) ?_
  intro p l e R s m args below meth c d h0 Q X ls st h pc1 ls1 st1 eq H locs al cells slots hS hH hro hL hcl hsl k
  obtain ⟨hx, hb, hml, hr, hown, hlk, hnm, hts, hW, hsz, hrl, hfr, hlo⟩ := X
  unfold m_if at eq
  split at eq
  · rename_i x st2
    simp only [Option.some.injEq, Sum.inl.injEq, Prod.mk.injEq] at eq
    obtain ⟨e1, e2, e3, -⟩ := eq
    subst e2 e3
    refine lv_if_le (tgt := t) hx hb hdg ht (fun hc => ?_) (fun hc => ?_)
    · rw [if_pos (by simpa using hc)] at e1
      subst e1
      exact k al hL
    · rw [if_neg (by simpa using hc)] at e1
      subst e1
      exact k al hL
  · cases eq

theorem m_s_icmp_le {off : Int} {t : Nat} (hdg : decode cc pc = .ok (.if_icmp .le off, 3)) (ht : (pc : Int) + off = (t : Int)) : m_Snd D cA ra B ro M cc nL ret own nm pc (m_icmp (fun x y => decide (x ≤ y)) t) := by
  refine m_pure (by
  intro ls st h x e
  unfold m_icmp at e
  (repeat' split at e) <;> first | (cases e; done) | (cases e; exact ⟨_, _, _, rfl⟩)) ?_
  intro p l e R s m args below meth c d h0 Q X ls st h pc1 ls1 st1 eq H locs al cells slots hS hH hro hL hcl hsl k
  obtain ⟨hx, hb, hml, hr, hown, hlk, hnm, hts, hW, hsz, hrl, hfr, hlo⟩ := X
  unfold m_icmp at eq
  split at eq
  · rename_i y x st2
    simp only [Option.some.injEq, Sum.inl.injEq, Prod.mk.injEq] at eq
    obtain ⟨e1, e2, e3, -⟩ := eq
    subst e2 e3
    refine lv_icmp_le (tgt := t) hx hb hdg ht (fun hc => ?_) (fun hc => ?_)
    · rw [if_pos (by simpa using hc)] at e1
      subst e1
      exact k al hL
    · rw [if_neg (by simpa using hc)] at e1
      subst e1
      exact k al hL
  · cases eq

theorem m_s_ifnull {off : Int} {t : Nat} (hdg : decode cc pc = .ok (.ifnull off, 3)) (ht : (pc : Int) + off = (t : Int)) : m_Snd D cA ra B ro M cc nL ret own nm pc (m_ifnull t) := by
  refine m_pure (by
  intro ls st h x e
  unfold m_ifnull at e
  (repeat' split at e) <;> first | (cases e; done) | (cases e; exact ⟨_, _, _, rfl⟩)) ?_
  intro p l e R s m args below meth c d h0 Q X ls st h pc1 ls1 st1 eq H locs al cells slots hS hH hro hL hcl hsl k
  obtain ⟨hx, hb, hml, hr, hown, hlk, hnm, hts, hW, hsz, hrl, hfr, hlo⟩ := X
  unfold m_ifnull at eq
  split at eq
  · cases eq
    exact lv_ifnullN hx hb hdg ht (k al hL)
  · cases eq
    exact lv_ifnull hx hb hdg (k al hL)
  · cases eq

theorem m_s_ifnonnull {off : Int} {t : Nat} (hdg : decode cc pc = .ok (.ifnonnull off, 3)) (ht : (pc : Int) + off = (t : Int)) : m_Snd D cA ra B ro M cc nL ret own nm pc (m_ifnonnull t) := by
  refine m_pure (by
  intro ls st h x e
  unfold m_ifnonnull at e
  (repeat' split at e) <;> first | (cases e; done) | (cases e; exact ⟨_, _, _, rfl⟩)) ?_
  intro p l e R s m args below meth c d h0 Q X ls st h pc1 ls1 st1 eq H locs al cells slots hS hH hro hL hcl hsl k
  obtain ⟨hx, hb, hml, hr, hown, hlk, hnm, hts, hW, hsz, hrl, hfr, hlo⟩ := X
  unfold m_ifnonnull at eq
  split at eq
  · cases eq
    exact lv_ifnonnullN hx hb hdg (k al hL)
  · cases eq
    exact lv_ifnonnull hx hb hdg ht (k al hL)
  · cases eq

theorem m_s_goto {off : Int} {t : Nat} (hdg : decode cc pc = .ok (.goto off, 3)) (ht : (pc : Int) + off = (t : Int)) : m_Snd D cA ra B ro M cc nL ret own nm pc (m_goto t) := by
  refine m_pure (by
  intro ls st h x e
  unfold m_goto at e
  (repeat' split at e) <;> first | (cases e; done) | (cases e; exact ⟨_, _, _, rfl⟩)) ?_
  intro p l e R s m args below meth c d h0 Q X ls st h pc1 ls1 st1 eq H locs al cells slots hS hH hro hL hcl hsl k
  obtain ⟨hx, hb, hml, hr, hown, hlk, hnm, hts, hW, hsz, hrl, hfr, hlo⟩ := X
  unfold m_goto at eq
  cases eq
  exact lv_goto hx hb hdg ht (k al hL)

theorem m_s_tsw {dflt lo hi : Int} {offs : Array Int} {len t0 : Nat} {tg : List Nat} (hdg : decode cc pc = .ok (.tableswitch dflt lo hi offs, len)) (hlen : (tg.length : Int) = hi - lo + 1) (ht : (pc : Int) + dflt = (t0 : Int)) (hof : ∀ i, i < tg.length → offs[i]? = some (((tg.getD i 0 : Nat) : Int) - (pc : Int))) : m_Snd D cA ra B ro M cc nL ret own nm pc (m_tsw lo hi t0 tg) := by
  refine m_pure (by
  intro ls st h x e
  unfold m_tsw at e
  (repeat' split at e) <;> first | (cases e; done) | (cases e; exact ⟨_, _, _, rfl⟩)) ?_
  intro p l e R s m args below meth c d h0 Q X ls st h pc1 ls1 st1 eq H locs al cells slots hS hH hro hL hcl hsl k
  obtain ⟨hx, hb, hml, hr, hown, hlk, hnm, hts, hW, hsz, hrl, hfr, hlo⟩ := X
  unfold m_tsw at eq
  split at eq
  · rename_i x st2
    simp only [Option.some.injEq, Sum.inl.injEq, Prod.mk.injEq] at eq
    obtain ⟨e1, e2, e3, -⟩ := eq
    subst e2 e3
    by_cases hc : x.toInt < lo ∨ hi < x.toInt
    · rw [if_pos hc] at e1
      subst e1
      exact lv_tableOut hx hb hdg hc ht (k al hL)
    · rw [if_neg hc] at e1
      subst e1
      have h1 : ¬ x.toInt < lo := fun z => hc (Or.inl z)
      have h2 : ¬ hi < x.toInt := fun z => hc (Or.inr z)
      have g1 := hof (x.toInt - lo).toNat (by omega)
      exact lv_tableIn hx hb hdg h1 h2 g1 (by omega) (k al hL)
  · cases eq

theorem m_s_lsw {dflt : Int} {ps : Array (Int × Int)} {len t0 t1 td : Nat} {lo hi : Int32} {a0 a1 : Int} (hdg : decode cc pc = .ok (.lookupswitch dflt ps, len)) (hps : ps.toList = [(lo.toInt, a0), (hi.toInt, a1)]) (hlt : lo.toInt < hi.toInt) (g0 : (pc : Int) + a0 = (t0 : Int)) (g1 : (pc : Int) + a1 = (t1 : Int)) (gd : (pc : Int) + dflt = (td : Int)) : m_Snd D cA ra B ro M cc nL ret own nm pc (m_lsw lo hi td t0 t1) := by
  refine m_pure (by
  intro ls st h x e
  unfold m_lsw at e
  (repeat' split at e) <;> first | (cases e; done) | (cases e; exact ⟨_, _, _, rfl⟩)) ?_
  intro p l e R s m args below meth c d h0 Q X ls st h pc1 ls1 st1 eq H locs al cells slots hS hH hro hL hcl hsl k
  obtain ⟨hx, hb, hml, hr, hown, hlk, hnm, hts, hW, hsz, hrl, hfr, hlo⟩ := X
  unfold m_lsw at eq
  split at eq
  · rename_i x st2
    simp only [Option.some.injEq, Sum.inl.injEq, Prod.mk.injEq] at eq
    obtain ⟨e1, e2, e3, -⟩ := eq
    subst e2 e3
    have hp : (ps.toList.zip (ps.toList.drop 1)).all (fun (a, next) => a.1 < next.1) = true := by rw [hps]; simp [hlt]
    by_cases hc : x = lo
    · rw [if_pos hc] at e1
      subst e1
      subst hc
      exact lv_lookup (off := a0) hx hb hdg hp (by rw [hps]; simp [Op.lookupswitch.offset]) g0 (k al hL)
    · rw [if_neg hc] at e1
      have n1 : ¬ x.toInt = lo.toInt := fun z => hc (Int32.toInt_inj.mp z)
      by_cases hc2 : x = hi
      · rw [if_pos hc2] at e1
        subst e1
        subst hc2
        exact lv_lookup (off := a1) hx hb hdg hp (by rw [hps]; simp [Op.lookupswitch.offset, Ne.symm n1]) g1 (k al hL)
      · rw [if_neg hc2] at e1
        subst e1
        have n2 : ¬ x.toInt = hi.toInt := fun z => hc2 (Int32.toInt_inj.mp z)
        exact lv_lookup (off := dflt) hx hb hdg hp (by rw [hps]; simp [Op.lookupswitch.offset, Ne.symm n1, Ne.symm n2]) gd (k al hL)
  · cases eq

theorem m_s_i2f (hdg : decode cc pc = .ok (.i2f, 1)) : m_Snd D cA ra B ro M cc nL ret own nm pc (m_i2f) := by
  refine m_pure (by
  intro ls st h x e
  unfold m_i2f at e
  (repeat' split at e) <;> first | (cases e; done) | (cases e; exact ⟨_, _, _, rfl⟩)) ?_
  intro p l e R s m args below meth c d h0 Q X ls st h pc1 ls1 st1 eq H locs al cells slots hS hH hro hL hcl hsl k
  obtain ⟨hx, hb, hml, hr, hown, hlk, hnm, hts, hW, hsz, hrl, hfr, hlo⟩ := X
  unfold m_i2f at eq
  split at eq
  · cases eq
    exact lv_i2f hx hb hdg (k al hL)
  · cases eq

theorem m_s_fadd (hdg : decode cc pc = .ok (.fadd, 1)) : m_Snd D cA ra B ro M cc nL ret own nm pc (m_fbin FP.fadd) := by
  refine m_pure (by
  intro ls st h x e
  unfold m_fbin at e
  (repeat' split at e) <;> first | (cases e; done) | (cases e; exact ⟨_, _, _, rfl⟩)) ?_
  intro p l e R s m args below meth c d h0 Q X ls st h pc1 ls1 st1 eq H locs al cells slots hS hH hro hL hcl hsl k
  obtain ⟨hx, hb, hml, hr, hown, hlk, hnm, hts, hW, hsz, hrl, hfr, hlo⟩ := X
  unfold m_fbin at eq
  split at eq
  · split at eq
    · rename_i hne
      cases eq
      exact lv_fadd hx hb hdg hne (k al hL)
    · cases eq
  · cases eq

theorem m_s_fdiv (hdg : decode cc pc = .ok (.fdiv, 1)) : m_Snd D cA ra B ro M cc nL ret own nm pc (m_fbin FP.fdiv) := by
  refine m_pure (by
  intro ls st h x e
  unfold m_fbin at e
  (repeat' split at e) <;> first | (cases e; done) | (cases e; exact ⟨_, _, _, rfl⟩)) ?_
  intro p l e R s m args below meth c d h0 Q X ls st h pc1 ls1 st1 eq H locs al cells slots hS hH hro hL hcl hsl k
  obtain ⟨hx, hb, hml, hr, hown, hlk, hnm, hts, hW, hsz, hrl, hfr, hlo⟩ := X
  unfold m_fbin at eq
  split at eq
  · split at eq
    · rename_i hne
      cases eq
      exact lv_fdiv hx hb hdg hne (k al hL)
    · cases eq
  · cases eq

theorem m_s_f2d (hdg : decode cc pc = .ok (.f2d, 1)) : m_Snd D cA ra B ro M cc nL ret own nm pc (m_f2d) := by
  refine m_pure (by
  intro ls st h x e
  unfold m_f2d at e
  (repeat' split at e) <;> first | (cases e; done) | (cases e; exact ⟨_, _, _, rfl⟩)) ?_
  intro p l e R s m args below meth c d h0 Q X ls st h pc1 ls1 st1 eq H locs al cells slots hS hH hro hL hcl hsl k
  obtain ⟨hx, hb, hml, hr, hown, hlk, hnm, hts, hW, hsz, hrl, hfr, hlo⟩ := X
  unfold m_f2d at eq
  split at eq
  · split at eq
    · rename_i hne
      cases eq
      exact lv_f2d hx hb hdg hne (k al hL)
    · cases eq
  · cases eq

theorem m_s_dcmp {op : CmpOp} (hdg : decode cc pc = .ok (.dcmp op, 1)) : m_Snd D cA ra B ro M cc nL ret own nm pc (m_dcmp op) := by
  refine m_pure (by
  intro ls st h x e
  unfold m_dcmp at e
  (repeat' split at e) <;> first | (cases e; done) | (cases e; exact ⟨_, _, _, rfl⟩)) ?_
  intro p l e R s m args below meth c d h0 Q X ls st h pc1 ls1 st1 eq H locs al cells slots hS hH hro hL hcl hsl k
  obtain ⟨hx, hb, hml, hr, hown, hlk, hnm, hts, hW, hsz, hrl, hfr, hlo⟩ := X
  unfold m_dcmp at eq
  split at eq
  · cases eq
    exact lv_dcmp hx hb hdg (k al hL)
  · cases eq

theorem m_s_fcmp {op : CmpOp} (hdg : decode cc pc = .ok (.fcmp op, 1)) : m_Snd D cA ra B ro M cc nL ret own nm pc (m_fcmp op) := by
  refine m_pure (by
  intro ls st h x e
  unfold m_fcmp at e
  (repeat' split at e) <;> first | (cases e; done) | (cases e; exact ⟨_, _, _, rfl⟩)) ?_
  intro p l e R s m args below meth c d h0 Q X ls st h pc1 ls1 st1 eq H locs al cells slots hS hH hro hL hcl hsl k
  obtain ⟨hx, hb, hml, hr, hown, hlk, hnm, hts, hW, hsz, hrl, hfr, hlo⟩ := X
  unfold m_fcmp at eq
  split at eq
  · cases eq
    exact lv_fcmp hx hb hdg (k al hL)
  · cases eq

theorem m_s_i2l (hdg : decode cc pc = .ok (.i2l, 1)) : m_Snd D cA ra B ro M cc nL ret own nm pc (m_i2l) := by
  refine m_pure (by
  intro ls st h x e
  unfold m_i2l at e
  (repeat' split at e) <;> first | (cases e; done) | (cases e; exact ⟨_, _, _, rfl⟩)) ?_
  intro p l e R s m args below meth c d h0 Q X ls st h pc1 ls1 st1 eq H locs al cells slots hS hH hro hL hcl hsl k
  obtain ⟨hx, hb, hml, hr, hown, hlk, hnm, hts, hW, hsz, hrl, hfr, hlo⟩ := X
  unfold m_i2l at eq
  split at eq
  · cases eq
    exact lv_i2l hx hb hdg rfl (k al hL)
  · cases eq

theorem m_s_ladd (hdg : decode cc pc = .ok (.ladd, 1)) : m_Snd D cA ra B ro M cc nL ret own nm pc (m_lbin (fun a b => a + b)) := by
  refine m_pure (by
  intro ls st h x e
  unfold m_lbin at e
  (repeat' split at e) <;> first | (cases e; done) | (cases e; exact ⟨_, _, _, rfl⟩)) ?_
  intro p l e R s m args below meth c d h0 Q X ls st h pc1 ls1 st1 eq H locs al cells slots hS hH hro hL hcl hsl k
  obtain ⟨hx, hb, hml, hr, hown, hlk, hnm, hts, hW, hsz, hrl, hfr, hlo⟩ := X
  unfold m_lbin at eq
  split at eq
  · cases eq
    exact lv_ladd hx hb hdg (k al hL)
  · cases eq

theorem m_s_lmul (hdg : decode cc pc = .ok (.lmul, 1)) : m_Snd D cA ra B ro M cc nL ret own nm pc (m_lbin (fun a b => a * b)) := by
  refine m_pure (by
  intro ls st h x e
  unfold m_lbin at e
  (repeat' split at e) <;> first | (cases e; done) | (cases e; exact ⟨_, _, _, rfl⟩)) ?_
  intro p l e R s m args below meth c d h0 Q X ls st h pc1 ls1 st1 eq H locs al cells slots hS hH hro hL hcl hsl k
  obtain ⟨hx, hb, hml, hr, hown, hlk, hnm, hts, hW, hsz, hrl, hfr, hlo⟩ := X
  unfold m_lbin at eq
  split at eq
  · cases eq
    exact lv_lmul hx hb hdg (k al hL)
  · cases eq

theorem m_s_lcmp (hdg : decode cc pc = .ok (.lcmp, 1)) : m_Snd D cA ra B ro M cc nL ret own nm pc (m_lcmp) := by
  refine m_pure (by
  intro ls st h x e
  unfold m_lcmp at e
  (repeat' split at e) <;> first | (cases e; done) | (cases e; exact ⟨_, _, _, rfl⟩)) ?_
  intro p l e R s m args below meth c d h0 Q X ls st h pc1 ls1 st1 eq H locs al cells slots hS hH hro hL hcl hsl k
  obtain ⟨hx, hb, hml, hr, hown, hlk, hnm, hts, hW, hsz, hrl, hfr, hlo⟩ := X
  unfold m_lcmp at eq
  split at eq
  · cases eq
    exact W.lcmp hx hb hdg (k al hL)
  · cases eq

end
