section
variable {D : va_G} {cA : Nat → ClassId} {ra : Nat → Nat} {B : Nat} {ro : List (List Int32)} {M : List m_Mt} {cc : ByteArray} {nL : Nat} {ret : Option FieldType} {own nm : String} {pc : Nat} {o : m_Op}
/-- THE PLAIN MACHINE IS SOUND -/
theorem m_sound {P : m_Prog} (hP : m_PS D cA ra B ro M P) (l : Launch) : ∀ (d z : Nat) (as : List Value) (h : m_Hp) (r : Option Value) (h' : m_Hp), m_Call P d z as h r h' → 4 ≤ h.length → ∀ q, M[z]? = some q → m_Met D cA ra B ro l d q as h r h' := by
  intro d
  induction d with
  | zero => intro _ _ _ _ _ k; exact k.elim
  | succ d ih =>
    intro z as h r h' k h4 q hq
    obtain ⟨w, n, hw, hca, k⟩ := k
    obtain ⟨q2, hq2, hw2, hpl, hT⟩ := hP z w hw
    cases hq.symm.trans hq2
    rw [hw2] at k hca
    unfold m_Met
    refine Met.ofW (cc := q.2.1) (maxL := q.2.2.1) (ret := q.2.2.2) hpl rfl ?_
    intro p e s m args below meth c s₁ Bd hml hv
    obtain ⟨rfl, hH, hex, hW, hro, hrl⟩ := hv
    have hts := atoms_spec (ws := Cond.code q.1 q.2.1 q.2.2.1 q.2.2.2 :: m_gd) Bd.pre
    have X : m_Cx D cA ra B ro p (m_rm (d + 1) h h') s m (as.map (m_cv ra B)).toArray meth c q.2.1 q.2.2.1 q.2.2.2 q.1.cls q.1.name d h :=
      ⟨Bd.exec, Bd.bytes, hml, Bd.returns, findClass_of_methodNamed Bd.named, Bd.notSynchronized, (name_of_methodNamed Bd.named Bd.method).1, fun w hw => hts w (List.mem_cons_of_mem _ hw), hW, hex, hrl, Nat.le_refl _, Nat.le_refl _⟩
    have Z := m_ex_go (l := l) (e := e) (below := below) (Q := MQ below (m_Qc D cA ra B r h') (as.map (m_cv ra B)).toArray s (h'.length - h.length) (m_sz h' - m_sz h) (m_A B)) X hT (m_call_mono hP d) ih
      (fun pc ls st h1 o v e1 e2 hm er eh => by subst er; subst eh; exact ((hT pc o e1).2 p l e _ s m _ below meth c d h _ X).2.2 ls st _ _ e2 hm rfl) h4 ⟨Nat.le_refl _, Nat.le_refl _⟩ n 0 _ _ h k m_mono.rf
    have Z2 := Z s.heap [] _ va_S.rf hH hro (m_Lv_entry hca)
    rw [Nat.sub_self, Nat.sub_self] at Z2
    rw [lg_entry_eq]
    exact Z2
end
