/-! THE CLAIM OUT OF ONE WALK OF THE LAW'S BODY. Your part is whole_start (and what it stands on); all else here is the same for every law, but numbers. -/
def R_law : String := "CardSheetsLaw"
def lw_P (b : Addr) (xs : List Int32) (args : Array Value) (s : State) : Prop := args = #[.ref b] ∧ s.IntsAt b xs ∧ xs.length ≤ 260 ∧ (Jvm.Cond.and given_1 narrow_1).before args s = true
/-- what a walk over the start with the record d0 says of its end, said of the start itself -/
theorem lw_closed {s t : State} {o : Outcome} {d0 : Drawn} {L : List Loc} {k n : Nat} (hd0 : s.drawn.sameBut d0 lw_cs) (hv : ∃ v, o = .returned v) (hW : (s.setDrawn d0).WarmedH t.vm) (hs : (s.setDrawn d0).sameButNew ({ t with vm := s.vm } : State) L k n) : State.butDraws s t lw_cs (fun t1 => Framed s o t1 L k n) := by
  have h2 : t.drawn = d0 := congrArg State.drawn hs.1
  refine ⟨⟨hv, hW, State.sameButNew.setDrawn hs s.drawn⟩, ?_, by decide⟩
  rw [h2]
  exact hd0
def lw_Q (_ : Array Value) (s : State) (o : Outcome) (t : State) : Prop := o = .returned (some (.int 1)) ∧ State.butDraws s t lw_cs (fun t1 => Framed s o t1 [] 600000 7302250)
def lw_Z (below : List Frame) (a : Array Value) (s : State) : State → Prop := fun t => ∃ o, t.status = .running ∧ Ended t below o ∧ lw_Q a s o t
/-- the law's own end, with 1 on the stack, nothing written that was there before, its room as the claim has it; d0: the record of draws at this point (at the entry s.drawn: begin with 'refine W.base ?_' and 'have hd0 := Drawn.sameBut.refl s.drawn lw_cs') -/
theorem lw_ret {p : Program} {l : Launch} {e : Env} {s : State} {m : MethodId} {below : List Frame} {meth : Method} {c : Code} {b : Nat} {d0 : Drawn} (hd0 : s.drawn.sameBut d0 lw_cs) (hx : p.tables.exec = Jvm.exec) (hb : c.code = code) (hr : meth.sig.returnType = ret) (hlocks : meth.locks = false) {pc : Nat} {H : Heap} {ls : Array Slot} (hdg : decode code pc = .ok (.ireturn, 1)) : W p l e room_1 (s.setDrawn d0) m #[Value.ref b] below meth c H [] 600000 7302250 (lw_Z below #[Value.ref b] s) (F0 m pc ls [.int 1]) := by
  intro T hT X
  obtain ⟨fs, hret, hrun, hended, hW, hframe⟩ := X.leave (v := some (.int 1)) (hlocks := hlocks) (fun h => by rw [hr] at h; cases h)
  have hmeth' : T.vm.method? m = some meth := X.method'
  refine ⟨T.setFrames fs, ?_, .returned (some (.int 1)), hrun, hended, rfl, lw_closed hd0 ⟨_, rfl⟩ hW hframe⟩
  jvm_step X.here [X.here.top, hx, hb, hdg, hmeth', hr, ret, narrow_b1]
  (try refine ⟨rfl, ?_⟩); (try refine ⟨rfl, ?_⟩)
  first | (intro acts; rw [hret _ acts rfl rfl rfl]) | rw [hret _ _ rfl rfl rfl]
  exact Steps.refl _
/-- what holds at the law's entry: the machine, the code, the tables' words (any of lw_tbl by 'hts w (by decide +kernel)'), the script of L ints xs at the cell b, what the Statement gives of the start (any of its parts by flat_of_before) -/
def lw_At (p : Program) (s : State) (m : MethodId) (meth : Method) (c : Code) (b L : Nat) (xs : Nat → Int32) : Prop :=
  p.tables.exec = Jvm.exec ∧ c.code = code ∧ meth.sig.returnType = ret ∧ c.maxLocals = 21 ∧ s.vm.findClass R_law = some m.cls ∧ (∀ w ∈ lw_tbl, w.before #[Value.ref b] s = true) ∧ va_X b L xs s s.heap ∧ b < s.heap.size ∧ meth.locks = false ∧ (Jvm.Cond.and given_1 narrow_1).before #[Value.ref b] s = true

/-! the law upon the plain machine -/
def m_set0 : List Int32 := [nI 10, nI 3, nI 4, nI 12]
def m_set1 : List Int32 := [nI 1, nI 0, nI 0, nI 1]
def m_set2 : List Int32 := [nI 99, nI 9, nI 24, nI 99]
def m_h0 (xs : List Int32) : m_Hp := [.inl (0, m_set0), .inl (0, m_set1), .inl (0, m_set2), .inl (0, xs)]
/-- what is left to show: on the plain machine the law answers 1, in its room -/
def m_Goal : Prop := ∀ xs : List Int32, xs.length ≤ 260 → ∃ (n : Nat) (h' : m_Hp), m_Ex (m_Call m_P 8) tL_law n 0 (m_entry [.ref 3] 21) [] (m_h0 xs) (some (.int 1)) h' ∧ h'.length ≤ 600004 ∧ m_sz h' ≤ 7302250
def m_ra (t0 t1 t2 b : Nat) : Nat → Nat := fun k => match k with | 0 => t0 | 1 => t1 | 2 => t2 | _ => b
theorem m_tab4 {args : Array Value} {s : State} {n : String} {a0 a1 a2 a3 : Nat} (harr : (Cond.arrayOf (Term.static "CardSheets" n "[I") .int).before args s = true) (hlen : (Cond.eq (Term.length (Term.static "CardSheets" n "[I")) (Term.int 4)).before args s = true)
    (e0 : (Cond.eq (Term.elem (Term.static "CardSheets" n "[I") (Term.int 0)) (Term.int (nI a0))).before args s = true) (e1 : (Cond.eq (Term.elem (Term.static "CardSheets" n "[I") (Term.int 1)) (Term.int (nI a1))).before args s = true) (e2 : (Cond.eq (Term.elem (Term.static "CardSheets" n "[I") (Term.int 2)) (Term.int (nI a2))).before args s = true) (e3 : (Cond.eq (Term.elem (Term.static "CardSheets" n "[I") (Term.int 3)) (Term.int (nI a3))).before args s = true)
    (hl : (Cond.laysStatic "CardSheets" n "[I").before args s = true) (hi : (Cond.initialized "CardSheets").before args s = true) : ∃ t : Nat, va_Z "CardSheets" n "[I" (.ref t) (m_A s.heap.size) s s.heap ∧ va_T .int t 4 (fun j => .int (([nI a0, nI a1, nI a2, nI a3] : List Int32).getD j 0)) (m_A s.heap.size) s s.heap := by
  have hA : ∀ a : Nat, a < s.heap.size → ¬ m_A s.heap.size a := fun a h z => absurd (show s.heap.size ≤ a from z) (Nat.not_le.mpr h)
  obtain ⟨t, h1, h2⟩ := va_Tof (f := fun j => Value.int (([nI a0, nI a1, nI a2, nI a3] : List Int32).getD j 0)) (N := 4) (by decide) harr (va_eqt hlen) (fun j hj => by
    match j, hj with
    | 0, _ => exact va_eqt e0
    | 1, _ => exact va_eqt e1
    | 2, _ => exact va_eqt e2
    | 3, _ => exact va_eqt e3) hA
  exact ⟨t, va_Zref hl hi h1 hA, h2⟩
theorem m_arrK {s : State} {f : FieldType} {c : ClassId} {k : Class} {comp : ClassId} (hk : s.vm.classes[c]? = some k) (hkind : k.kind = .array comp f) : ArrOfT s c f := fun n z => ⟨(fun k h => by cases h), k, hk, comp, hkind⟩
set_option maxRecDepth 100000 in
theorem m_K_all {args : Array Value} {s : State} (hts : ∀ w ∈ lw_tbl, w.before args s = true) : ∃ (D : va_G) (cA : Nat → ClassId), va_K D vwCl (m_tys cA) s := by
  have hin : ∀ {C : String} {T : u_T} {N : Nat}, (∀ w ∈ u_ws C T N, w ∈ m_gd) → ∀ w ∈ u_ws C T N, w ∈ lw_tbl := fun h w hw => (List.mem_filter.mp (h w hw)).1
  obtain ⟨c0, i0, k0⟩ := u_known (C := RX0) (T := TX0) (N := 3) (n := 3) hts (hin uw_0) (hts _ (by decide +kernel))
  obtain ⟨c1, i1, k1⟩ := u_known (C := RX1) (T := TX1) (N := 3) (n := 3) hts (hin uw_1) (hts _ (by decide +kernel))
  obtain ⟨c2, i2, k2⟩ := u_known (C := RX2) (T := TX2) (N := 3) (n := 3) hts (hin uw_2) (hts _ (by decide +kernel))
  obtain ⟨c3, i3, k3⟩ := u_known (C := RX3) (T := TX3) (N := 11) (n := 11) hts (hin uw_3) (hts _ (by decide +kernel))
  obtain ⟨c4, i4, k4⟩ := u_known (C := RX4) (T := TX4) (N := 7) (n := 7) hts (hin uw_4) (hts _ (by decide +kernel))
  obtain ⟨c5, i5, k5⟩ := u_known (C := RX5) (T := TX5) (N := 6) (n := 6) hts (hin uw_5) (hts _ (by decide +kernel))
  obtain ⟨a0, b0, d0, e0, f0, g0⟩ := Cond.arrayClass_spec (hts (.arrayClass .int) (by decide +kernel))
  obtain ⟨a1, b1, d1, e1, f1, g1⟩ := Cond.arrayClass_spec (hts (.arrayClass .char) (by decide +kernel))
  obtain ⟨d2, a2, b2, e2, -, f2, g2, n2⟩ := Cond.arrayOver_spec (hts (.arrayOver (.object RX2)) (by decide +kernel))
  obtain ⟨d3, a3, b3, e3, -, f3, g3, n3⟩ := Cond.arrayOver_spec (hts (.arrayOver (.object RX3)) (by decide +kernel))
  refine ⟨(fun k => match k with | 0 => c0 | 1 => c1 | 2 => c2 | 3 => c3 | 4 => c4 | _ => c5, fun k => match k with | 0 => i0 | 1 => i1 | 2 => i2 | 3 => i3 | 4 => i4 | _ => i5), fun k => match k with | 0 => a0 | 1 => a1 | 2 => a2 | _ => a3, ?_, ?_⟩
  · intro c q hq
    match c, hq with
    | 0, hq => cases hq; exact k0
    | 1, hq => cases hq; exact k1
    | 2, hq => cases hq; exact k2
    | 3, hq => cases hq; exact k3
    | 4, hq => cases hq; exact k4
    | 5, hq => cases hq; exact k5
    | n + 6, hq => simp [vwCl] at hq
  · intro k q hq
    match k, hq with
    | 0, hq => cases hq; exact ⟨m_arrK f0 g0, e0⟩
    | 1, hq => cases hq; exact ⟨m_arrK f1 g1, e1⟩
    | 2, hq => cases hq; exact ⟨m_arrK f2 g2, b2, d2, f2, g2, e2, n2⟩
    | 3, hq => cases hq; exact ⟨m_arrK f3 g3, b3, d3, f3, g3, e3, n3⟩
    | n + 4, hq => simp [m_tys] at hq
set_option maxRecDepth 100000 in
set_option maxHeartbeats 4000000 in
theorem whole_start_of (G : m_Goal) {p : Program} {e : Env} {s : State} {m : MethodId} {below : List Frame} {meth : Method} {c : Code} (l : Launch) (hflags : l.flags = flags0) {b L : Nat} {xs : Nat → Int32} (hL : L ≤ 260) (C0 : lw_At p s m meth c b L xs) : W p l e room_1 s m #[Value.ref b] below meth c s.heap [] 0 0 (lw_Z below #[Value.ref b] s) (entryFrame m ([Value.ref b] : List Value).toArray 21) := by
  obtain ⟨hx, hb, hr, hml, hown, hts, hX, hbl, hlocks, hgv⟩ := id C0
  have hs := flat_of_before _ hgv
  have hA : ∀ a : Nat, a < s.heap.size → ¬ m_A s.heap.size a := fun a h z => absurd (show s.heap.size ≤ a from z) (Nat.not_le.mpr h)
  obtain ⟨t0, z0, r0⟩ := m_tab4 (n := "FIRST_OF_SETTING") (a0 := 10) (a1 := 3) (a2 := 4) (a3 := 12) (hs _ (by decide +kernel)) (hs _ (by decide +kernel)) (hs _ (by decide +kernel)) (hs _ (by decide +kernel)) (hs _ (by decide +kernel)) (hs _ (by decide +kernel)) (hts _ (by decide +kernel)) (hts _ (by decide +kernel))
  obtain ⟨t1, z1, r1⟩ := m_tab4 (n := "LEAST_OF_SETTING") (a0 := 1) (a1 := 0) (a2 := 0) (a3 := 1) (hs _ (by decide +kernel)) (hs _ (by decide +kernel)) (hs _ (by decide +kernel)) (hs _ (by decide +kernel)) (hs _ (by decide +kernel)) (hs _ (by decide +kernel)) (hts _ (by decide +kernel)) (hts _ (by decide +kernel))
  obtain ⟨t2, z2, r2⟩ := m_tab4 (n := "MOST_OF_SETTING") (a0 := 99) (a1 := 9) (a2 := 24) (a3 := 99) (hs _ (by decide +kernel)) (hs _ (by decide +kernel)) (hs _ (by decide +kernel)) (hs _ (by decide +kernel)) (hs _ (by decide +kernel)) (hs _ (by decide +kernel)) (hts _ (by decide +kernel)) (hts _ (by decide +kernel))
  obtain ⟨D, cA, hK⟩ := m_K_all hts
  obtain ⟨n, h', hE, hc, hz⟩ := G ((List.range L).map xs) (by rw [List.length_map, List.length_range]; exact hL)
  have hnest : ∀ w ∈ m_nest, va_Nw w s := fun w hw => by
    have h1 := List.mem_filter.mp hw
    have h2 := h1.2
    simp only [Bool.and_eq_true] at h2
    exact va_Nw.of h2.1.2 (hts w h1.1)
  have r3 : va_T .int b ((List.range L).map xs).length (fun j => .int (((List.range L).map xs).getD j 0)) (m_A s.heap.size) s s.heap := by
    obtain ⟨scr, q1, q2, q3, q4, q5⟩ := hX
    rw [List.length_map, List.length_range]
    refine ⟨scr, q1, q2, q3, Nat.le_of_eq q4.symm, by rw [q4], fun j hj => ?_, hA b hbl⟩
    rw [q5 j hj]
    simp [hj]
  have hW : m_Wd D cA (m_ra t0 t1 t2 b) s.heap.size [m_set0, m_set1, m_set2, (List.range L).map xs] s s.heap := by
    refine ⟨hK, fun k ys hk => ?_, z0, z1, z2, hnest, va_AO.of (hts (.arrayOver (.object RX2)) (by decide +kernel)), va_AO.of (hts (.arrayOver (.object RX3)) (by decide +kernel)), Nat.le_refl _⟩
    match k, hk with
    | 0, hk => cases hk; exact r0
    | 1, hk => cases hk; exact r1
    | 2, hk => cases hk; exact r2
    | 3, hk => cases hk; exact r3
    | n + 4, hk => simp at hk
  have X : m_Cx D cA (m_ra t0 t1 t2 b) s.heap.size [m_set0, m_set1, m_set2, (List.range L).map xs] p room_1 s m #[Value.ref b] meth c cL_law 21 ret RL meth.name 8 (m_h0 ((List.range L).map xs)) :=
    ⟨hx, hb, hml, hr, hown, hlocks, rfl, fun w hw => hts w (List.mem_filter.mp hw).1, hW, rfl, rfl, Nat.le_of_ble_eq_true rfl, Nat.le_of_ble_eq_true rfl⟩
  have hT := sL_law (D := D) (cA := cA) (ra := (m_ra t0 t1 t2 b)) (B := s.heap.size) (ro := [m_set0, m_set1, m_set2, (List.range L).map xs]) (nm := meth.name)
  have hz0 : m_sz h' - m_sz (m_h0 ((List.range L).map xs)) ≤ 7302250 := Nat.le_trans (Nat.sub_le _ _) hz
  have hc0 : h'.length - (m_h0 ((List.range L).map xs)).length ≤ 600000 := by
    show h'.length - 4 ≤ 600000
    exact Nat.sub_le_of_le_add hc
  have hPS : m_PS D cA (m_ra t0 t1 t2 b) s.heap.size [m_set0, m_set1, m_set2, (List.range L).map xs] m_M m_P := m_PS_all
  have Z := m_ex_go (l := l) (e := e) (below := below) (Q := lw_Z below #[Value.ref b] s) X hT (m_call_mono hPS 8) (m_sound hPS l 8)
    (fun pc ls st h o v e1 e2 hm er eh => by
      subst er; subst eh
      rcases (hT pc o e1).1.2 ls st h' _ e2 with ⟨x, q1, q2, q3⟩ | q
      · cases q2
        subst q1
        intro H locs al hS hH hro hLv
        refine va_forget (fun q hq => hS.2.2 q hq) ?_
        refine W.widen hc0 hz0 ?_
        exact lw_ret (d0 := s.drawn) (Drawn.sameBut.refl s.drawn lw_cs) hx hb hr hlocks q3
      · exact absurd rfl (q 1)) (Nat.le_refl 4) ⟨hc0, hz0⟩ n 0 _ _ _ hE m_mono.rf
  have Z2 := Z s.heap [] _ va_S.rf ⟨(fun k q h => by simp [m_ws, m_h0] at h), Nat.le_refl _⟩ rfl (m_Lv_entry (ra := (m_ra t0 t1 t2 b)) (B := s.heap.size) (as := [.ref 3]) (n := 21) rfl)
  rw [Nat.sub_self, Nat.sub_self] at Z2
  rw [lg_entry_eq]
  exact Z2
