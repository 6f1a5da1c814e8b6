/-! A plain machine: values are the JVM's, a reference is the number of a cell; numbers 0 to 3 are rows that are only read. -/
abbrev m_Cel : Type := (Nat × List Int32) ⊕ ((Nat × List Value) ⊕ (Nat × List (Option Nat)))
abbrev m_Hp : Type := List m_Cel
abbrev m_Ls : Type := List (Option Value)
abbrev m_FS : Type := Nat × m_Ls × List Value × m_Hp
abbrev m_Res : Type := m_FS ⊕ ((Nat × List Value × List Value) ⊕ Option Value)
abbrev m_Op : Type := Nat → m_Ls → List Value → m_Hp → Option m_Res
abbrev m_Tab : Type := List (Nat × m_Op)
abbrev m_Prog : Type := List (m_Tab × Nat)
abbrev m_CR : Type := Nat → List Value → m_Hp → Option Value → m_Hp → Prop
def m_at : m_Tab → Nat → Option m_Op
  | [], _ => none
  | (k, o) :: l, pc => bif Nat.beq k pc then some o else m_at l pc
def m_Ex (C : m_CR) (tab : m_Tab) : Nat → Nat → m_Ls → List Value → m_Hp → Option Value → m_Hp → Prop
  | 0, _, _, _, _, _, _ => False
  | n + 1, pc, ls, st, h, r, h' => ∃ (op : m_Op) (x : m_Res), m_at tab pc = some op ∧ op pc ls st h = some x ∧ match x with
    | .inl (pc1, ls1, st1, h1) => m_Ex C tab n pc1 ls1 st1 h1 r h'
    | .inr (.inl (z, as, rest)) => ∃ r1 h1, C z as h r1 h1 ∧ m_Ex C tab n (pc + 3) ls (r1.toList ++ rest) h1 r h'
    | .inr (.inr v) => r = v ∧ h' = h
def m_c1 : Value → Bool
  | .long _ => false
  | .double _ => false
  | _ => true
def m_entry (as : List Value) (nL : Nat) : m_Ls := as.map some ++ List.replicate (nL - as.length) none
def m_Call (P : m_Prog) : Nat → m_CR
  | 0, _, _, _, _, _ => False
  | d + 1, z, as, h, r, h' => ∃ (q : m_Tab × Nat) (n : Nat), P[z]? = some q ∧ (Nat.ble as.length q.2 && as.all m_c1) = true ∧ m_Ex (m_Call P d) q.1 n 0 (m_entry as q.2) [] h r h'
/-- from here the method comes to an end that Q allows -/
def m_E (C : m_CR) (tab : m_Tab) (pc : Nat) (ls : m_Ls) (st : List Value) (h : m_Hp) (Q : Option Value → m_Hp → Prop) : Prop := ∃ n r h', m_Ex C tab n pc ls st h r h' ∧ Q r h'
def m_run (tab : m_Tab) : Nat → m_FS → Option m_FS
  | 0, s => some s
  | n + 1, (pc, ls, st, h) => match m_at tab pc with
    | some op => match op pc ls st h with
      | some (.inl s) => m_run tab n s
      | _ => none
    | none => none
section
variable {C : m_CR} {tab : m_Tab} {pc pc1 : Nat} {ls ls1 : m_Ls} {st st1 : List Value} {h h1 : m_Hp} {Q : Option Value → m_Hp → Prop}
theorem m_E.op {o : m_Op} (e1 : m_at tab pc = some o) (e2 : o pc ls st h = some (.inl (pc1, ls1, st1, h1))) (k : m_E C tab pc1 ls1 st1 h1 Q) : m_E C tab pc ls st h Q := by
  obtain ⟨n, r, h', k1, k2⟩ := k
  exact ⟨n + 1, r, h', ⟨o, _, e1, e2, k1⟩, k2⟩
theorem m_E.run (n : Nat) (e : m_run tab n (pc, ls, st, h) = some (pc1, ls1, st1, h1)) (k : m_E C tab pc1 ls1 st1 h1 Q) : m_E C tab pc ls st h Q := by
  induction n generalizing pc ls st h with
  | zero => cases e; exact k
  | succ n ih =>
    rw [m_run] at e
    cases h3 : m_at tab pc with
    | none => rw [h3] at e; cases e
    | some o =>
      rw [h3] at e
      dsimp only at e
      cases h4 : o pc ls st h with
      | none => rw [h4] at e; cases e
      | some x =>
        rw [h4] at e
        cases x with
        | inr y => cases e
        | inl s =>
          obtain ⟨p2, l2, s2, h2⟩ := s
          exact m_E.op h3 h4 (ih e)
theorem m_E.ite {c : Prop} [Decidable c] {t f : Nat} (kt : c → m_E C tab t ls st h Q) (kf : ¬ c → m_E C tab f ls st h Q) : m_E C tab (if c then t else f) ls st h Q := by
  by_cases hc : c
  · rw [if_pos hc]; exact kt hc
  · rw [if_neg hc]; exact kf hc
theorem m_E.yes {c : Prop} [Decidable c] {t f : Nat} (hc : c) (kt : m_E C tab t ls st h Q) : m_E C tab (if c then t else f) ls st h Q := by
  rw [if_pos hc]; exact kt
theorem m_E.no {c : Prop} [Decidable c] {t f : Nat} (hc : ¬ c) (kf : m_E C tab f ls st h Q) : m_E C tab (if c then t else f) ls st h Q := by
  rw [if_neg hc]; exact kf
theorem m_E.call {o : m_Op} {z : Nat} {as rest : List Value} {r1 : Option Value} (e1 : m_at tab pc = some o) (e2 : o pc ls st h = some (.inr (.inl (z, as, rest)))) (hc : C z as h r1 h1) (k : m_E C tab (pc + 3) ls (r1.toList ++ rest) h1 Q) : m_E C tab pc ls st h Q := by
  obtain ⟨n, r, h', k1, k2⟩ := k
  exact ⟨n + 1, r, h', ⟨o, _, e1, e2, r1, h1, hc, k1⟩, k2⟩
theorem m_E.cv {o : m_Op} {z : Nat} {as rest : List Value} {v : Value} (e1 : m_at tab pc = some o) (e2 : o pc ls st h = some (.inr (.inl (z, as, rest)))) (hc : C z as h (some v) h1) (k : m_E C tab (pc + 3) ls (v :: rest) h1 Q) : m_E C tab pc ls st h Q := m_E.call e1 e2 hc k
theorem m_E.cn {o : m_Op} {z : Nat} {as rest : List Value} (e1 : m_at tab pc = some o) (e2 : o pc ls st h = some (.inr (.inl (z, as, rest)))) (hc : C z as h none h1) (k : m_E C tab (pc + 3) ls rest h1 Q) : m_E C tab pc ls st h Q := m_E.call e1 e2 hc k
theorem m_E.ret {o : m_Op} {v : Option Value} (e1 : m_at tab pc = some o) (e2 : o pc ls st h = some (.inr (.inr v))) (k : Q v h) : m_E C tab pc ls st h Q := ⟨1, v, h, ⟨o, _, e1, e2, rfl, rfl⟩, k⟩
theorem m_E.up (σ : Nat → m_FS) (n : Nat) (I : Nat → Prop) (hs : ∀ i, i < n → I i → (I (i + 1) → m_E C tab (σ (i + 1)).1 (σ (i + 1)).2.1 (σ (i + 1)).2.2.1 (σ (i + 1)).2.2.2 Q) → m_E C tab (σ i).1 (σ i).2.1 (σ i).2.2.1 (σ i).2.2.2 Q)
    (h0 : I 0) (k : I n → m_E C tab (σ n).1 (σ n).2.1 (σ n).2.2.1 (σ n).2.2.2 Q) : m_E C tab (σ 0).1 (σ 0).2.1 (σ 0).2.2.1 (σ 0).2.2.2 Q := by
  have key : ∀ j i, i + j = n → I i → m_E C tab (σ i).1 (σ i).2.1 (σ i).2.2.1 (σ i).2.2.2 Q := by
    intro j
    induction j with
    | zero => intro i e hi; have e2 : i = n := by omega
              subst e2; exact k hi
    | succ j ih => intro i e hi; exact hs i (by omega) hi (fun h2 => ih (i + 1) (by omega) h2)
  exact key n 0 (by omega) h0
end
theorem m_call_of {P : m_Prog} {d z nL : Nat} {tab : m_Tab} {as : List Value} {h h' : m_Hp} {r : Option Value} (hp : P[z]? = some (tab, nL)) (ha : (Nat.ble as.length nL && as.all m_c1) = true) (hE : m_E (m_Call P d) tab 0 (m_entry as nL) [] h (fun r2 h2 => r2 = r ∧ h2 = h')) : m_Call P (d + 1) z as h r h' := by
  obtain ⟨n, r2, h2, k1, rfl, rfl⟩ := hE
  exact ⟨(tab, nL), n, hp, ha, k1⟩
theorem m_call_ex {P : m_Prog} {d z nL : Nat} {tab : m_Tab} {as : List Value} {h : m_Hp} {Q : Option Value → m_Hp → Prop} (hp : P[z]? = some (tab, nL)) (ha : (Nat.ble as.length nL && as.all m_c1) = true) (hE : m_E (m_Call P d) tab 0 (m_entry as nL) [] h Q) : ∃ r h', m_Call P (d + 1) z as h r h' ∧ Q r h' := by
  obtain ⟨n, r2, h2, k1, k2⟩ := hE
  exact ⟨r2, h2, ⟨(tab, nL), n, hp, ha, k1⟩, k2⟩
theorem m_Ex.mono {C C' : m_CR} (hC : ∀ z as h r h', C z as h r h' → C' z as h r h') {tab : m_Tab} : ∀ (n pc : Nat) (ls : m_Ls) (st : List Value) (h : m_Hp) (r : Option Value) (h' : m_Hp), m_Ex C tab n pc ls st h r h' → m_Ex C' tab n pc ls st h r h' := by
  intro n
  induction n with
  | zero => intro _ _ _ _ _ _ k; exact k
  | succ n ih =>
    intro pc ls st h r h' k
    obtain ⟨op, x, e1, e2, k⟩ := k
    refine ⟨op, x, e1, e2, ?_⟩
    rcases x with ⟨p1, l1, s1, h1⟩ | ⟨z, as, rest⟩ | v
    · exact ih _ _ _ _ _ _ k
    · obtain ⟨r1, h1, c1, k⟩ := k
      exact ⟨r1, h1, hC _ _ _ _ _ c1, ih _ _ _ _ _ _ k⟩
    · exact k
theorem m_Call.up {P : m_Prog} : ∀ (d z : Nat) (as : List Value) (h : m_Hp) (r : Option Value) (h' : m_Hp), m_Call P d z as h r h' → m_Call P (d + 1) z as h r h' := by
  intro d
  induction d with
  | zero => intro _ _ _ _ _ k; exact k.elim
  | succ d ih =>
    intro z as h r h' k
    obtain ⟨q, n, e, e2, k⟩ := k
    exact ⟨q, n, e, e2, m_Ex.mono ih _ _ _ _ _ _ _ k⟩
theorem m_Call.le {P : m_Prog} {d d' z : Nat} {as : List Value} {h : m_Hp} {r : Option Value} {h' : m_Hp} (hd : d ≤ d') (k : m_Call P d z as h r h') : m_Call P d' z as h r h' := by
  induction hd with
  | refl => exact k
  | step _ ih => exact m_Call.up _ _ _ _ _ _ ih
/-! the instructions -/
/-- no double stands just before -/
def m_ok (ls : m_Ls) : Nat → Bool
  | 0 => true
  | j + 1 => match ls[j]? with
    | some (some v) => m_c1 v
    | _ => true
def m_no (_ : Nat) (_ : m_Ls) (_ : List Value) (_ : m_Hp) : Option m_Res := none
def m_const (v : Value) (w : Nat) : m_Op := fun pc ls st h => some (.inl (pc + w, ls, v :: st, h))
def m_iload (i w : Nat) : m_Op := fun pc ls st h => match ls[i]? with
  | some (some (.int x)) => some (.inl (pc + w, ls, .int x :: st, h))
  | _ => none
def m_fload (i w : Nat) : m_Op := fun pc ls st h => match ls[i]? with
  | some (some (.float x)) => some (.inl (pc + w, ls, .float x :: st, h))
  | _ => none
def m_dload (i w : Nat) : m_Op := fun pc ls st h => match ls[i]? with
  | some (some (.double x)) => some (.inl (pc + w, ls, .double x :: st, h))
  | _ => none
def m_aload (i w : Nat) : m_Op := fun pc ls st h => match ls[i]? with
  | some (some (.ref x)) => some (.inl (pc + w, ls, .ref x :: st, h))
  | some (some .null) => some (.inl (pc + w, ls, .null :: st, h))
  | _ => none
def m_sto (i w : Nat) (v : Value) (st : List Value) : m_Op := fun pc ls _ h => bif m_ok ls i && Nat.blt i ls.length then some (.inl (pc + w, ls.set i (some v), st, h)) else none
def m_istore (i w : Nat) : m_Op := fun pc ls st h => match st with
  | .int x :: st => m_sto i w (.int x) st pc ls st h
  | _ => none
def m_fstore (i w : Nat) : m_Op := fun pc ls st h => match st with
  | .float x :: st => m_sto i w (.float x) st pc ls st h
  | _ => none
def m_astore (i w : Nat) : m_Op := fun pc ls st h => match st with
  | .ref x :: st => m_sto i w (.ref x) st pc ls st h
  | .null :: st => m_sto i w .null st pc ls st h
  | _ => none
def m_dstore (i w : Nat) : m_Op := fun pc ls st h => match st with
  | .double x :: st => bif m_ok ls i && Nat.blt (i + 1) ls.length then some (.inl (pc + w, (ls.set (i + 1) none).set i (some (.double x)), st, h)) else none
  | _ => none
def m_iinc (i : Nat) (n : Int32) : m_Op := fun pc ls st h => match ls[i]? with
  | some (some (.int x)) => m_sto i 3 (.int (x + n)) st pc ls st h
  | _ => none
def m_bin (f : Int32 → Int32 → Int32) : m_Op := fun pc ls st h => match st with
  | .int y :: .int x :: st => some (.inl (pc + 1, ls, .int (f x y) :: st, h))
  | _ => none
def m_un (f : Int32 → Int32) : m_Op := fun pc ls st h => match st with
  | .int x :: st => some (.inl (pc + 1, ls, .int (f x) :: st, h))
  | _ => none
def m_div (f : Int32 → Int32 → Int32) : m_Op := fun pc ls st h => match st with
  | .int y :: .int x :: st => if y = 0 then none else some (.inl (pc + 1, ls, .int (f x y) :: st, h))
  | _ => none
def m_dup : m_Op := fun pc ls st h => match st with
  | .ref x :: st => some (.inl (pc + 1, ls, .ref x :: .ref x :: st, h))
  | .int x :: st => some (.inl (pc + 1, ls, .int x :: .int x :: st, h))
  | _ => none
def m_dup2 : m_Op := fun pc ls st h => match st with
  | .int i :: .ref x :: st => some (.inl (pc + 1, ls, .int i :: .ref x :: .int i :: .ref x :: st, h))
  | _ => none
def m_if (c : Int32 → Bool) (t : Nat) : m_Op := fun pc ls st h => match st with
  | .int x :: st => some (.inl (if c x = true then t else pc + 3, ls, st, h))
  | _ => none
def m_icmp (c : Int32 → Int32 → Bool) (t : Nat) : m_Op := fun pc ls st h => match st with
  | .int y :: .int x :: st => some (.inl (if c x y = true then t else pc + 3, ls, st, h))
  | _ => none
def m_ifnull (t : Nat) : m_Op := fun pc ls st h => match st with
  | .null :: st => some (.inl (t, ls, st, h))
  | .ref _ :: st => some (.inl (pc + 3, ls, st, h))
  | _ => none
def m_ifnonnull (t : Nat) : m_Op := fun pc ls st h => match st with
  | .null :: st => some (.inl (pc + 3, ls, st, h))
  | .ref _ :: st => some (.inl (t, ls, st, h))
  | _ => none
def m_goto (t : Nat) : m_Op := fun _ ls st h => some (.inl (t, ls, st, h))
def m_tsw (lo hi : Int) (dflt : Nat) (tg : List Nat) : m_Op := fun _ ls st h => match st with
  | .int x :: st => some (.inl (if x.toInt < lo ∨ hi < x.toInt then dflt else tg.getD (x.toInt - lo).toNat 0, ls, st, h))
  | _ => none
def m_lsw (lo hi : Int32) (dflt t0 t1 : Nat) : m_Op := fun _ ls st h => match st with
  | .int x :: st => some (.inl (if x = lo then t0 else if x = hi then t1 else dflt, ls, st, h))
  | _ => none
def m_i2f : m_Op := fun pc ls st h => match st with
  | .int x :: st => some (.inl (pc + 1, ls, .float (FP.i2f x) :: st, h))
  | _ => none
def m_fbin (f : UInt32 → UInt32 → UInt32) : m_Op := fun pc ls st h => match st with
  | .float y :: .float x :: st => if (f x y) &&& 0x7fffffff ≤ 0x7f800000 then some (.inl (pc + 1, ls, .float (f x y) :: st, h)) else none
  | _ => none
def m_f2d : m_Op := fun pc ls st h => match st with
  | .float x :: st => if (FP.f2d x) &&& 0x7fffffffffffffff ≤ 0x7ff0000000000000 then some (.inl (pc + 1, ls, .double (FP.f2d x) :: st, h)) else none
  | _ => none
def m_dcmp (op : CmpOp) : m_Op := fun pc ls st h => match st with
  | .double y :: .double x :: st => some (.inl (pc + 1, ls, .int (Op.cmpValue (FP.dcmp x y) op) :: st, h))
  | _ => none
def m_get (ci k : Nat) : m_Op := fun pc ls st h => match st with
  | .ref a :: st => match h[a]? with
    | some (.inr (.inl (cj, fs))) => match fs[k]? with
      | some v => bif Nat.beq cj ci && Nat.blt 3 a then some (.inl (pc + 3, ls, v :: st, h)) else none
      | none => none
    | _ => none
  | _ => none
def m_fit : Nat → Value → Bool
  | 0, .int _ => true
  | 1, .ref _ => true
  | 1, .null => true
  | 2, .int x => x == 0 || x == 1
  | _, _ => false
def m_put (ci k ty : Nat) : m_Op := fun pc ls st h => match st with
  | v :: .ref a :: st => match h[a]? with
    | some (.inr (.inl (cj, fs))) => bif Nat.beq cj ci && Nat.blt 3 a && m_fit ty v && Nat.blt k fs.length then some (.inl (pc + 3, ls, st, h.set a (.inr (.inl (ci, fs.set k v))))) else none
    | _ => none
  | _ => none
def m_gets (k : Nat) : m_Op := fun pc ls st h => some (.inl (pc + 3, ls, .ref k :: st, h))
def m_len : m_Op := fun pc ls st h => match st with
  | .ref a :: st => match h[a]? with
    | some (.inl (u, xs)) => bif Nat.blt u 4 then some (.inl (pc + 1, ls, .int (Int32.ofNat xs.length) :: st, h)) else none
    | some (.inr (.inr (u, rs))) => bif Nat.blt u 4 && Nat.blt 3 a then some (.inl (pc + 1, ls, .int (Int32.ofNat rs.length) :: st, h)) else none
    | _ => none
  | _ => none
/-- loads from a row of kind t (0 int, 1 char) -/
def m_ild (t : Nat) : m_Op := fun pc ls st h => match st with
  | .int i :: .ref a :: st => match h[a]? with
    | some (.inl (u, xs)) => if (i < 0 ∨ xs.length ≤ i.toNatClampNeg) then none else bif Nat.beq u t && (Nat.beq t 0 || Nat.blt 3 a) then some (.inl (pc + 1, ls, .int (xs.getD i.toNatClampNeg 0) :: st, h)) else none
    | _ => none
  | _ => none
def m_ist (t : Nat) (f : Int32 → Int32) : m_Op := fun pc ls st h => match st with
  | .int x :: .int i :: .ref a :: st => match h[a]? with
    | some (.inl (u, xs)) => if (i < 0 ∨ xs.length ≤ i.toNatClampNeg) then none else bif Nat.beq u t && Nat.blt 3 a then some (.inl (pc + 1, ls, st, h.set a (.inl (t, xs.set i.toNatClampNeg (f x))))) else none
    | _ => none
  | _ => none
def m_rf : Option Nat → Value
  | none => .null
  | some k => .ref k
def m_ald : m_Op := fun pc ls st h => match st with
  | .int i :: .ref a :: st => match h[a]? with
    | some (.inr (.inr (u, rs))) => if (i < 0 ∨ rs.length ≤ i.toNatClampNeg) then none else bif (Nat.beq u 2 || Nat.beq u 3) && Nat.blt 3 a then some (.inl (pc + 1, ls, m_rf (rs.getD i.toNatClampNeg none) :: st, h)) else none
    | _ => none
  | _ => none
/-- kind of row t, for the class of number ci -/
def m_ast (t ci : Nat) : m_Op := fun pc ls st h => match st with
  | .null :: .int i :: .ref a :: st => match h[a]? with
    | some (.inr (.inr (u, rs))) => if (i < 0 ∨ rs.length ≤ i.toNatClampNeg) then none else bif Nat.beq u t && Nat.blt 3 a then some (.inl (pc + 1, ls, st, h.set a (.inr (.inr (t, rs.set i.toNatClampNeg none))))) else none
    | _ => none
  | .ref b :: .int i :: .ref a :: st => match h[a]? with
    | some (.inr (.inr (u, rs))) => match h[b]? with
      | some (.inr (.inl (cj, _))) => if (i < 0 ∨ rs.length ≤ i.toNatClampNeg) then none else bif Nat.beq u t && Nat.blt 3 a && Nat.beq cj ci && Nat.blt 3 b then some (.inl (pc + 1, ls, st, h.set a (.inr (.inr (t, rs.set i.toNatClampNeg (some b)))))) else none
      | _ => none
    | _ => none
  | _ => none
def m_new (ci : Nat) (fs : List Value) : m_Op := fun pc ls st h => some (.inl (pc + 3, ls, .ref h.length :: st, h ++ [.inr (.inl (ci, fs))]))
def m_nar (t : Nat) : m_Op := fun pc ls st h => match st with
  | .int n :: st => if n < 0 ∨ 100000 < n.toNatClampNeg then none else some (.inl (pc + 2, ls, .ref h.length :: st, h ++ [.inl (t, List.replicate n.toNatClampNeg 0)]))
  | _ => none
def m_anar (t : Nat) : m_Op := fun pc ls st h => match st with
  | .int n :: st => if n < 0 ∨ 100000 < n.toNatClampNeg then none else some (.inl (pc + 3, ls, .ref h.length :: st, h ++ [.inr (.inr (t, List.replicate n.toNatClampNeg none))]))
  | _ => none
def m_cs (st : List Value) : Nat := (st.map fun v => v.category).sum
def m_init0 : m_Op := fun pc ls st h => match st with
  | .ref _ :: st => bif Nat.ble (m_cs st) 8 then some (.inl (pc + 3, ls, st, h)) else none
  | _ => none
def m_copy : m_Op := fun pc ls st h => match st with
  | .int n :: .int dp :: .ref b :: .int sp :: .ref a :: st => match h[a]?, h[b]? with
    | some (.inl (0, xs)), some (.inl (0, ys)) => if sp = 0 ∧ dp = 0 ∧ ¬ n < 0 ∧ n.toNatClampNeg ≤ xs.length ∧ n.toNatClampNeg ≤ ys.length then bif Nat.blt 3 b && Nat.ble (m_cs st) 8 then some (.inl (pc + 3, ls, st, h.set b (.inl (0, xs.take n.toNatClampNeg ++ ys.drop n.toNatClampNeg)))) else none else none
    | _, _ => none
  | _ => none
def m_min : m_Op := fun pc ls st h => match st with
  | .int y :: .int x :: st => bif Nat.ble (m_cs st) 8 then some (.inl (pc + 3, ls, .int (if y < x then y else x) :: st, h)) else none
  | _ => none
def m_abs : m_Op := fun pc ls st h => match st with
  | .int x :: st => bif Nat.ble (m_cs st) 8 then some (.inl (pc + 3, ls, .int (if 0 ≤ x then x else 0 - x) :: st, h)) else none
  | _ => none
/-- a call of method z with n arguments; of one of an object: the object, of class ci, below them -/
def m_cst (z n : Nat) : m_Op := fun _ _ st _ => bif Nat.ble n st.length && Nat.ble (m_cs (st.drop n)) 8 && (st.take n).all m_c1 then some (.inr (.inl (z, (st.take n).reverse, st.drop n))) else none
def m_cob (z n ci : Nat) : m_Op := fun _ _ st h => match st.drop n with
  | .ref a :: rest => match h[a]? with
    | some (.inr (.inl (cj, _))) => bif Nat.beq cj ci && Nat.blt 3 a && Nat.ble (m_cs rest) 8 && (st.take n).all m_c1 then some (.inr (.inl (z, .ref a :: (st.take n).reverse, rest))) else none
    | _ => none
  | _ => none
def m_iret : m_Op := fun _ _ st _ => match st with
  | [.int x] => some (.inr (.inr (some (.int x))))
  | _ => none
/-- returns a boolean or a char: what is kept of x is x -/
def m_zret (f : Int32 → Int32) : m_Op := fun _ _ st _ => match st with
  | [.int x] => if f x = x then some (.inr (.inr (some (.int x)))) else none
  | _ => none
def m_fret : m_Op := fun _ _ st _ => match st with
  | [.float x] => some (.inr (.inr (some (.float x))))
  | _ => none
def m_aret : m_Op := fun _ _ st _ => match st with
  | [.ref x] => some (.inr (.inr (some (.ref x))))
  | [.null] => some (.inr (.inr (some .null)))
  | _ => none
def m_vret : m_Op := fun _ _ st _ => match st with
  | [] => some (.inr (.inr none))
  | _ => none
/-! longs, and the rest that this law wants -/
def m_lload (i w : Nat) : m_Op := fun pc ls st h => match ls[i]? with
  | some (some (.long x)) => some (.inl (pc + w, ls, .long x :: st, h))
  | _ => none
def m_lstore (i w : Nat) : m_Op := fun pc ls st h => match st with
  | .long x :: st => bif m_ok ls i && Nat.blt (i + 1) ls.length then some (.inl (pc + w, (ls.set (i + 1) none).set i (some (.long x)), st, h)) else none
  | _ => none
def m_lbin (f : Int64 → Int64 → Int64) : m_Op := fun pc ls st h => match st with
  | .long y :: .long x :: st => some (.inl (pc + 1, ls, .long (f x y) :: st, h))
  | _ => none
def m_i2l : m_Op := fun pc ls st h => match st with
  | .int x :: st => some (.inl (pc + 1, ls, .long x.toInt64 :: st, h))
  | _ => none
def m_lcmp : m_Op := fun pc ls st h => match st with
  | .long y :: .long x :: st => some (.inl (pc + 1, ls, .int (lg_cmp x y) :: st, h))
  | _ => none
def m_fcmp (op : CmpOp) : m_Op := fun pc ls st h => match st with
  | .float y :: .float x :: st => some (.inl (pc + 1, ls, .int (Op.cmpValue (FP.fcmp x y) op) :: st, h))
  | _ => none
def m_lret : m_Op := fun _ _ st _ => match st with
  | [.long x] => some (.inr (.inr (some (.long x))))
  | _ => none
