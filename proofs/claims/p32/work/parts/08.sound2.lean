/-! arraycopy, calls, returns; the plain machine's runs are the JVM's -/
section
variable {D : va_G} {cA : Nat → ClassId} {ra : Nat → Nat} {B : Nat} {ro : List (List Int32)} {M : List m_Mt} {cc : ByteArray} {nL : Nat} {ret : Option FieldType} {own nm : String} {pc : Nat} {o : m_Op}
theorem m_copy_spec {ls : m_Ls} {st : List Value} {h : m_Hp} {x : m_Res} (e : m_copy pc ls st h = some x) : ∃ (n : Int32) (b a : Nat) (st2 : List Value) (xs ys : List Int32), st = .int n :: .int 0 :: .ref b :: .int 0 :: .ref a :: st2 ∧ h[a]? = some (.inl (0, xs)) ∧ h[b]? = some (.inl (0, ys)) ∧ ¬ n < 0 ∧ n.toNatClampNeg ≤ xs.length ∧ n.toNatClampNeg ≤ ys.length ∧ 3 < b ∧ m_cs st2 ≤ 8 ∧ x = .inl (pc + 3, ls, st2, h.set b (.inl (0, xs.take n.toNatClampNeg ++ ys.drop n.toNatClampNeg))) := by
  unfold m_copy at e
  split at e
  · rename_i n dp b sp a st2
    split at e
    · rename_i xs ys ha hb
      split at e
      · rename_i hc
        obtain ⟨rfl, rfl, h3, h4, h5⟩ := hc
        obtain ⟨hq, e3⟩ := m_bif e
        rw [Bool.and_eq_true] at hq
        exact ⟨n, b, a, st2, xs, ys, rfl, ha, hb, h3, h4, h5, m_blt hq.1, m_ble hq.2, e3⟩
      · cases e
    · cases e
  · cases e
theorem m_ce_cpy {xs ys : List Int32} {n : Nat} (h1 : n ≤ xs.length) (h2 : n ≤ ys.length) : m_ce cA ra B (.inl (0, xs.take n ++ ys.drop n)) = .inl (cA 0, ys.length, .inl (va_cpy (fun j => xs.getD j 0) (fun j => ys.getD j 0) 0 0 n)) := by
  show Sum.inl (cA 0, (xs.take n ++ ys.drop n).length, Sum.inl (fun j => (xs.take n ++ ys.drop n).getD j 0)) = _
  have e : (xs.take n ++ ys.drop n).length = ys.length := by rw [List.length_append, List.length_take, List.length_drop]; omega
  rw [e]
  congr 3
  exact congrArg Sum.inl (funext fun j => m_cpy0 h1 h2 j)
/-- from a row that is only read -/
theorem m_copyR {p : Program} {l : Launch} {e : Env} {R : Room} {s : State} {m : MethodId} {args : Array Value} {below : List Frame} {meth : Method} {c : Code} {H : Heap} {locs : List Loc} {cells slots : Nat} {Q : State → Prop} {al : Array Slot} {rest : List Value} {ws : va_W} {index : Nat}
    (hx : p.tables.exec = Jvm.exec) (hb : c.code = cc) (hml : c.maxLocals = al.size) (hown : s.vm.findClass own = some m.cls) (hlink : (Cond.methodLink own index arraycopyName).before args s = true) (hnat : (Cond.native arraycopyName).before args s = true) (hstat : (Cond.static arraycopyName).before args s = true) (hini : (Cond.initialized "java/lang/System").before args s = true)
    (hK : va_K D vwCl (m_tys cA) s) (hP : va_P D vwCl ws H) (hD : va_D (m_A B) ws) (hS : va_S (m_A B) s.heap H locs) (q1 : Nat) {a0 a N n1 : Nat} {f g : Nat → Int32} (hT : va_T .int a0 N (fun j => .int (f j)) (m_A B) s s.heap) (ha1 : ws[q1]? = some (a, .inl (cA 0, n1, .inl g)))
    {n : Int32} (h3 : ¬ n < 0) (h4 : n.toNatClampNeg ≤ N) (h5 : n.toNatClampNeg ≤ n1)
    (hframes : 1 ≤ R.frames) (hlocals : (rest.map fun v => v.category).sum + (nativeFrameWords "java/lang/System" "arraycopy" 5 + 11) ≤ R.locals) (hdg : decode cc pc = .ok (.invokestatic index, 3))
    (kk : ∀ (H1 : Heap) (locs1 : List Loc), va_P D vwCl (ws.set q1 (a, .inl (cA 0, n1, .inl (va_cpy f g 0 0 n.toNatClampNeg)))) H1 → va_S (m_A B) H H1 locs1 → W p l e R s m args below meth c H1 locs1 cells slots Q (F0 m (pc + 3) al rest)) : W p l e R s m args below meth c H locs cells slots Q (F0 m pc al (.int n :: .int 0 :: .ref a :: .int 0 :: .ref a0 :: rest)) := by
  have nn : ∀ z : Int32, ¬ z < 0 → z.toInt = (z.toNatClampNeg : Int) := by
    intro z hz
    have hz0 : (0 : Int) ≤ z.toInt := by
      have := Int32.not_lt.mp hz
      simpa using Int32.le_iff_toInt_le.mp this
    show z.toInt = ((z.toInt.toNat : Nat) : Int)
    omega
  obtain ⟨cell, c1, c2, c3, c4, c5, c6, c7⟩ := hT
  obtain ⟨co, k0, hk0, cm0, hkk0⟩ := c2
  intro T hT X
  have hc0 : H[a0]? = some cell := by rw [hS.2.1 a0 (Array.getElem?_eq_some_iff.mp c1).1 c7]; exact c1
  have hc1 : H[a]? = some (vp_cell (cA 0) (n1, .inl g)) := hP q1 _ ha1
  obtain ⟨-, k1, hk1, cm1, hkk1⟩ := (hK.2 0 _ m_ty0).1 n1 (fun j => .int (g j))
  have z0 : (0 : Int32).toNatClampNeg = 0 := rfl
  have rd : ∀ i, i < n.toNatClampNeg → cell.slots.getD (0 + i) .null = .int (f i) := fun i hi => by
    rw [Array.getD_eq_getD_getElem?, Nat.zero_add, c6 i (by omega)]; rfl
  obtain ⟨vm', X', step⟩ := X.arraycopy hx hown hlink hnat hstat hini (src := a0) (dst := a) (cs := cell) (cd := vp_cell (cA 0) (n1, .inl g)) (srcPos := 0) (destPos := 0) (n := n) (by rw [hT]; exact hc0) (by rw [hT]; exact hc1)
    co (fun _ h => by cases h) c3 (fun h => by cases h) hk0 hk1 hkk0 hkk1 (by show ((refKind FieldType.int != refKind FieldType.int) || (!refKind FieldType.int && FieldType.int != FieldType.int)) = false; decide) (by decide) (by decide) h3
    (by rw [nn 0 (by decide), nn n h3, z0]; omega)
    (by rw [nn 0 (by decide), nn n h3, z0]; show ¬ _ > ((arrV (cA 0) n1 (fun j => .int (g j))).slots.size : Int); rw [arrV_size]; omega)
    (fun vm₁ _ i hi => by
      rw [z0, rd i hi]
      exact ⟨rfl, trivial⟩)
    (g := F0 m pc al (.int n :: .int 0 :: .ref a :: .int 0 :: .ref a0 :: rest)) rfl (by rw [hml]) (rest := rest) rfl (by rw [hb]; exact hdg) hframes (by show 2 * 0 + _ + _ ≤ _; omega)
  have es : cell.stretch 0 n.toNatClampNeg = (arrV (cA 0) N (fun j => Value.int (f j))).stretch 0 n.toNatClampNeg := by
    unfold Cell.stretch
    apply List.map_congr_left
    intro i hi
    have hi' := List.mem_range.mp hi
    rw [rd i hi', Array.getD_eq_getD_getElem?, arrV_read _ _ (by omega), Nat.zero_add]
    rfl
  have e1 : copied cell (vp_cell (cA 0) (n1, .inl g)) 0 0 n = vp_cell (cA 0) (n1, .inl (va_cpy f g 0 0 n.toNatClampNeg)) := by
    show (arrV (cA 0) n1 (fun j => Value.int (g j))).storeRun 0 (cell.stretch 0 n.toNatClampNeg) = _
    rw [es]
    exact va_copied (fun z => .int z) (cA 0) (cA 0) f g (by omega)
  rw [e1] at X' step
  have hl : a < H.size := (Array.getElem?_eq_some_iff.mp hc1).1
  have hheap : ((T.setVm vm').setCell a (vp_cell (cA 0) (n1, .inl (va_cpy f g 0 0 n.toNatClampNeg)))).heap = H.setIfInBounds a (vp_cell (cA 0) (n1, .inl (va_cpy f g 0 0 n.toNatClampNeg))) := by rw [← hT]; rfl
  have oq : ∀ q : Nat, q ≠ a → (H.setIfInBounds a (vp_cell (cA 0) (n1, .inl (va_cpy f g 0 0 n.toNatClampNeg))))[q]? = H[q]? := fun q hq => by simp [Array.getElem?_setIfInBounds, Ne.symm hq]
  obtain ⟨t, a1, b1⟩ := kk _ _ (hP.set hD ha1 (show (H.setIfInBounds a _)[a]? = some _ by simp [Array.getElem?_setIfInBounds, hl]) oq) ⟨by simp, fun q g1 g2 => oq q (fun e => g2 (by rw [e]; exact hD.2 q1 _ ha1)), fun q hq => by
      rcases List.mem_append.mp hq with h | h
      · exact hS.2.2 q h
      · obtain ⟨z, -, hz⟩ := List.mem_map.mp h
        rw [← hz]
        exact hD.2 q1 _ ha1⟩ _ hheap X'
  exact ⟨t, step t a1, b1⟩
theorem m_s_copy {idx : Nat} (hw1 : Cond.methodLink own idx arraycopyName ∈ m_gd) (hw2 : Cond.native arraycopyName ∈ m_gd) (hw3 : Cond.static arraycopyName ∈ m_gd) (hw4 : Cond.initialized "java/lang/System" ∈ m_gd) (hdg : decode cc pc = .ok (.invokestatic idx, 3)) : m_Snd D cA ra B ro M cc nL ret own nm pc m_copy := by
  refine m_heap (fun ls st h x e => ?_) (fun ls st h pc1 ls1 st1 h1 e _ => ?_) ?_
  · obtain ⟨n, b, a, st2, xs, ys, -, -, -, -, -, -, -, -, z⟩ := m_copy_spec e
    exact ⟨_, z⟩
  · obtain ⟨n, b, a, st2, xs, ys, -, -, hb, -, h4, h5, h3, -, z⟩ := m_copy_spec e
    cases z
    exact m_mono.set hb h3 (by show (xs.take n.toNatClampNeg ++ ys.drop n.toNatClampNeg).length = ys.length; rw [List.length_append, List.length_take, List.length_drop]; omega)
  intro p l e R s m args below meth c d h0 Q X ls st h pc1 ls1 st1 h1 eq h4 hmm hm0 hR H locs al hS hH hro hL hex kk
  obtain ⟨hx, hb, hml, hr, hown, hlk, hnm2, hts, hW, hsz, hrl, hfr, hlo⟩ := X
  obtain ⟨n, b, a, st2, xs, ys, rfl, ha, hb2, g1, g2, g3, g4, g5, z⟩ := m_copy_spec eq
  cases z
  have hz : m_csz (.inl (0, xs.take n.toNatClampNeg ++ ys.drop n.toNatClampNeg)) = m_csz (.inl (0, ys)) := by show (xs.take n.toNatClampNeg ++ ys.drop n.toNatClampNeg).length = ys.length; rw [List.length_append, List.length_take, List.length_drop]; omega
  have hnat : nativeFrameWords "java/lang/System" "arraycopy" 5 = 7 := by decide
  by_cases h3 : 3 < a
  · refine va_copyi (D := D) (H0 := H) (A := m_A B) (sp := 0) (dp := 0) (n := n) hx hb (hml.trans hL.2.1.symm) hown (hts _ hw1) (hts _ hw2) (hts _ hw3) (hts _ hw4) hW.1 hH.1 m_wsD (m_S0 hS) (a - 4) (b - 4) 0 0 (m_ws_get ha h3) (m_ws_get hb2 g4) m_ty0 m_ty0 (by decide) (by decide) (by decide) g1 (by show 0 + _ ≤ _; omega) (by show 0 + _ ≤ _; omega) (fun i _ => rfl) (by omega) (by rw [m_cs_cv, hnat]; omega) hdg (fun H1 locs1 hP1 hD1 hS1 => ?_)
    have k1 := kk H1 locs1 (m_S2 hS hS1) (m_Hd_set g4 (m_ce_cpy g2 g3) hP1 hS1.1 hH) al hL
    rw [m_len_set, m_sz_set hb2 hz] at k1
    exact k1
  · have h3' : a < 4 := Nat.lt_succ_of_le (Nat.le_of_not_lt h3)
    obtain ⟨xs2, f1, f2⟩ := hro.ro h3' ha
    cases f2
    have ea : m_cv ra B (.ref a) = .ref (ra a) := by show Value.ref (m_ad ra B a) = _; rw [m_ad4 h3']
    simp only [List.map_cons]
    rw [ea]
    refine m_copyR (D := D) (cA := cA) (B := B) (n := n) hx hb (hml.trans hL.2.1.symm) hown (hts _ hw1) (hts _ hw2) (hts _ hw3) (hts _ hw4) hW.1 hH.1 m_wsD hS (b - 4) (hW.2.1 a xs f1) (m_ws_get hb2 g4) g1 g2 g3 (by omega) (by rw [m_cs_cv, hnat]; omega) hdg (fun H1 locs1 hP1 hS1 => ?_)
    have k1 := kk H1 locs1 (m_S2 hS hS1) (m_Hd_set g4 (m_ce_cpy g2 g3) hP1 hS1.1 hH) al hL
    rw [m_len_set, m_sz_set hb2 hz] at k1
    exact k1
/-! calls -/
theorem m_Pc_blind {as : List Value} {h : m_Hp} : FrameBlind (m_Pc D cA ra B ro as h) := fun a U g mk q => ⟨q.1, q.2.1, q.2.2.1, m_Wd.same (u := U) rfl q.2.2.2.1, q.2.2.2.2⟩
theorem m_gi {y : MethodName} {b : ByteArray} {k : Nat} {rt : Option FieldType} (h : Cond.code y b k rt ∈ m_gd) : GoodIn m_gd (Cond.code y b k rt :: m_gd) := by
  intro w hw
  have hm : w ∈ m_gd := by
    rcases List.mem_cons.mp hw with e | e
    · rw [e]; exact h
    · exact e
  exact ⟨hm, good_of_word (List.mem_filter.mp hm).2⟩
theorem m_cont {p : Program} {l : Launch} {e : Env} {R : Room} {s : State} {m : MethodId} {args : Array Value} {below : List Frame} {meth : Method} {c : Code} {H : Heap} {locs : List Loc} {cells slots mc ms : Nat} {Q : State → Prop} {al : Array Slot} {st0 rest : List Value} {r1 : Option Value} {h1 : m_Hp} {a0 : Array Value}
    (hr : va_Run p l e R s m args below meth c H locs cells slots mc ms (F0 m pc al st0) rest (m_Qc D cA ra B r1 h1 a0) (m_A B)) (hS : va_S (m_A B) s.heap H locs)
    (kk : ∀ (H1 : Heap) (locs1 : List Loc), va_S (m_A B) s.heap H1 locs1 → m_Hd D cA ra B h1 H1 → W p l e R s m args below meth c H1 locs1 (cells + mc) (slots + ms) Q (F0 m (pc + 3) al ((r1.map (m_cv ra B)).toList ++ rest))) : W p l e R s m args below meth c H locs cells slots Q (F0 m pc al st0) := by
  intro T hT X
  obtain ⟨v, st₀, t, T', L, e0, X', hL, e1, e2, ⟨hv, hHd, hz, hk⟩, st⟩ := hr T hT X
  cases hv
  rw [e0] at hz hk
  obtain ⟨t2, a1, b1⟩ := kk T'.heap (locs ++ L)
    ⟨Nat.le_trans hS.1 (by rw [e1]; exact hz), fun q g1 g2 => by rw [e1, hk q (Nat.lt_of_lt_of_le g1 hS.1) g2]; exact hS.2.1 q g1 g2, fun q hq => by
      rcases List.mem_append.mp hq with h | h
      · exact hS.2.2 q h
      · exact hL q h⟩ (by rw [e1]; exact hHd) T' rfl X'
  exact ⟨t2, st t2 a1, b1⟩
theorem m_Pc_at {p : Program} {R : Room} {s : State} {m : MethodId} {args : Array Value} {meth : Method} {c : Code} {d : Nat} {h0 h : m_Hp} {H : Heap} {locs : List Loc} {as : List Value} (X : m_Cx D cA ra B ro p R s m args meth c cc nL ret own nm d h0) (hS : va_S (m_A B) s.heap H locs) (hH : m_Hd D cA ra B h H) (hro : m_Rd ro h) (hex : H.size + 4 = B + h.length) (U : State) (hU : U.heap = H) (hWU : s.WarmedH U.vm) : m_Pc D cA ra B ro as h (as.map (m_cv ra B)).toArray U := by
  obtain ⟨hx, hb, hml, hr, hown, hlk, hnm, hts, hW, hsz, hrl, hfr, hlo⟩ := X
  refine ⟨rfl, by rw [hU]; exact hH, by rw [hU]; omega, ?_, hro, hrl⟩
  rw [hU]
  exact (hW.kept hS.1 (fun a g1 g2 => hS.2.1 a g1 g2)).warm hWU
theorem m_call_go {p : Program} {l : Launch} {e : Env} {R : Room} {s : State} {m : MethodId} {args : Array Value} {below : List Frame} {meth : Method} {c : Code} {d : Nat} {h0 h h1 : m_Hp} {Q : State → Prop} {ls : m_Ls} {st rest as : List Value} {r1 : Option Value} {q : m_Mt}
    (X : m_Cx D cA ra B ro p R s m args meth c cc nL ret own nm d h0) (hm : m_mono h h1) (hm0 : m_mono h0 h) (hR : m_Rm R h0 h1) (hmet : m_Met D cA ra B ro l d q as h r1 h1)
    (run : ∀ (H : Heap) (locs : List Loc) (al : Array Slot), va_S (m_A B) s.heap H locs → m_Hd D cA ra B h H → al.size = nL → (∀ U : State, U.heap = H → s.WarmedH U.vm → m_Pc D cA ra B ro as h (as.map (m_cv ra B)).toArray U) → (h.length - h0.length + (h1.length - h.length) ≤ R.cells ∧ m_sz h - m_sz h0 + (m_sz h1 - m_sz h) ≤ R.slots) → va_Run p l e R s m args below meth c H locs (h.length - h0.length) (m_sz h - m_sz h0) (h1.length - h.length) (m_sz h1 - m_sz h) (F0 m pc al (st.map (m_cv ra B))) (rest.map (m_cv ra B)) (m_Qc D cA ra B r1 h1 (as.map (m_cv ra B)).toArray) (m_A B))
    (kk : m_Zp D cA ra B ro p l e R s m args below meth c nL Q h0 (pc + 3) ls (r1.toList ++ rest) h1) : m_Zp D cA ra B ro p l e R s m args below meth c nL Q h0 pc ls st h := by
  intro H locs al hS hH hro hL
  refine m_Wsize fun hup => ?_
  have hsz := X.2.2.2.2.2.2.2.2.2.1
  have h5 := hm0.1
  have h6 := hH.2
  have h7 := hm.1
  have h8 := hm.2.1
  have h9 := hm0.2.1
  obtain ⟨k1, k2⟩ := hR
  refine m_cont (run H locs al hS hH hL.2.1 (m_Pc_at X hS hH hro (by omega)) (by omega)) hS (fun H1 locs1 hS1 hH1 => ?_)
  have k3 := kk H1 locs1 al hS1 hH1 (hro.mono hm) hL
  rw [List.map_append] at k3
  have e1 : h.length - h0.length + (h1.length - h.length) = h1.length - h0.length := by omega
  have e2 : m_sz h - m_sz h0 + (m_sz h1 - m_sz h) = m_sz h1 - m_sz h0 := by omega
  rw [e1, e2]
  have e3 : (r1.map (m_cv ra B)).toList = r1.toList.map (m_cv ra B) := by cases r1 <;> rfl
  rw [e3]
  exact k3
theorem m_cst_spec {z n : Nat} {ls : m_Ls} {st : List Value} {h : m_Hp} {x : m_Res} (e : m_cst z n pc ls st h = some x) : n ≤ st.length ∧ m_cs (st.drop n) ≤ 8 ∧ x = .inr (.inl (z, (st.take n).reverse, st.drop n)) := by
  unfold m_cst at e
  obtain ⟨hq, e3⟩ := m_bif e
  rw [Bool.and_eq_true, Bool.and_eq_true] at hq
  exact ⟨m_ble hq.1.1, m_ble hq.1.2, e3⟩
theorem m_st_cut {st : List Value} {n : Nat} : st.map (m_cv ra B) = (((st.take n).reverse).map (m_cv ra B)).reverse ++ (st.drop n).map (m_cv ra B) := by
  rw [← List.map_reverse, List.reverse_reverse, ← List.map_append, List.take_append_drop]
/-- a static call -/
theorem m_s_cst {z n idx : Nat} {y : MethodName} {b : ByteArray} {k : Nat} {rt : Option FieldType} (hM : M[z]? = some (y, b, k, rt)) (hk : k ≤ 22) (hlk : Cond.methodLink own idx y ∈ m_gd ∨ ∃ host, Cond.methodLinkNest own idx y host ∈ m_nest) (hst : Cond.static y ∈ m_gd) (hin : Cond.initialized y.cls ∈ m_gd) (hcd : Cond.code y b k rt ∈ m_gd)
    (hd : y.cls ≠ "java/lang/invoke/MethodHandle" ∧ y.cls ≠ "java/lang/invoke/VarHandle" ∧ (parseMethodDescriptor y.desc).map (fun d => d.parameters.length) = some n) (hdg : decode cc pc = .ok (.invokestatic idx, 3)) : m_Snd D cA ra B ro M cc nL ret own nm pc (m_cst z n) := by
  refine ⟨⟨fun ls st h pc1 ls1 st1 h1 e _ => (by obtain ⟨_, _, z⟩ := m_cst_spec e; cases z), fun ls st h v e => (by obtain ⟨_, _, z⟩ := m_cst_spec e; cases z)⟩, ?_⟩
  intro p l e R s m args below meth c d h0 Q X
  refine ⟨fun ls st h pc1 ls1 st1 h1 e => (by obtain ⟨_, _, z⟩ := m_cst_spec e; cases z), ?_, fun ls st h v e => (by obtain ⟨_, _, z⟩ := m_cst_spec e; cases z)⟩
  intro ls st h z2 as rest r1 h1 eq hm hmet hm0 hR kk
  obtain ⟨g1, g2, g3⟩ := m_cst_spec eq
  cases g3
  have met := hmet _ hM
  refine m_call_go X hm hm0 hR met (fun H locs al hS hH hal hPc hroom => ?_) kk
  obtain ⟨hx, hb, hml, hr, hown, hlk2, hnm, hts, hW, hsz, hrl, hfr, hlo⟩ := X
  have hstk : st.map (m_cv ra B) = (((st.take n).reverse).map (m_cv ra B)).reverse ++ (st.drop n).map (m_cv ra B) := m_st_cut
  have hlen : (((st.take n).reverse).map (m_cv ra B)).length = n := by rw [List.length_map, List.length_reverse, List.length_take]; omega
  have hrm : (m_rm d h h1).frames + 1 ≤ R.frames ∧ 8 + (k + 11) + (m_rm d h h1).locals ≤ R.locals := ⟨hfr, by show 8 + (k + 11) + (41 * d + 40) ≤ R.locals; omega⟩
  rcases hlk with hl | ⟨host, hl⟩
  · exact va_runS (n := n) (nL := nL) ⟨hx, hb, hml, hown, hts⟩ met ⟨callB_of n hts (m_gi hcd) rfl rfl rfl (hts _ hin) (hts _ hl) hd hrm, hts _ hst⟩ ⟨m_Pc_blind, hPc⟩ rfl hlen hal hstk (lv_room (by rw [m_cs_cv]; exact g2)) hdg hroom
  · exact va_runSN (n := n) (nL := nL) (host := host) ⟨hx, hb, hml, hown, hts⟩ met ⟨va_cnB n hts (m_gi hcd) rfl rfl rfl (hW.2.2.2.2.2.1 _ hl) (hts _ hin) hd hrm, hts _ hst, trivial⟩ ⟨m_Pc_blind, hPc⟩ rfl hlen hal hstk (lv_room (by rw [m_cs_cv]; exact g2)) hdg hroom
theorem m_cob_spec {z n ci : Nat} {ls : m_Ls} {st : List Value} {h : m_Hp} {x : m_Res} (e : m_cob z n ci pc ls st h = some x) : ∃ (a : Nat) (rest fs : List Value), st.drop n = .ref a :: rest ∧ h[a]? = some (.inr (.inl (ci, fs))) ∧ 3 < a ∧ m_cs rest ≤ 8 ∧ x = .inr (.inl (z, .ref a :: (st.take n).reverse, rest)) := by
  unfold m_cob at e
  split at e
  · rename_i a rest hdrop
    split at e
    · rename_i cj fs hh
      obtain ⟨hq, e3⟩ := m_bif e
      rw [Bool.and_eq_true, Bool.and_eq_true, Bool.and_eq_true] at hq
      obtain ⟨⟨⟨q1, q2⟩, q3⟩, q4⟩ := hq
      have e1 := m_beq q1
      subst e1
      exact ⟨a, rest, fs, hdrop, hh, m_blt q2, m_ble q3, e3⟩
    · cases e
  · cases e
theorem m_st_cut2 {st rest : List Value} {n a : Nat} (h : st.drop n = .ref a :: rest) : st.map (m_cv ra B) = (((st.take n).reverse).map (m_cv ra B)).reverse ++ .ref (m_ad ra B a) :: rest.map (m_cv ra B) := by
  rw [m_st_cut (n := n), h]; rfl
theorem m_drop_len {st rest : List Value} {n a : Nat} (h : st.drop n = .ref a :: rest) : n ≤ st.length := by
  have := congrArg List.length h
  rw [List.length_drop, List.length_cons] at this
  omega
/-- a call of an object's method -/
theorem m_s_cob {z n idx ci N : Nat} {T : u_T} {y : MethodName} {b : ByteArray} {k : Nat} {rt : Option FieldType} (hM : M[z]? = some (y, b, k, rt)) (hc : vwCl[ci]? = some (y.cls, T, N)) (hk : k ≤ 22) (hlk : Cond.methodLink own idx y ∈ m_gd ∨ ∃ host, Cond.methodLinkNest own idx y host ∈ m_nest) (him : Cond.instanceMethod y ∈ m_gd) (hsl : Cond.selects y.cls y y ∈ m_gd) (hin : Cond.initialized y.cls ∈ m_gd) (hcd : Cond.code y b k rt ∈ m_gd)
    (hd : y.cls ≠ "java/lang/invoke/MethodHandle" ∧ y.cls ≠ "java/lang/invoke/VarHandle" ∧ (parseMethodDescriptor y.desc).map (fun d => d.parameters.length) = some n) (hdg : decode cc pc = .ok (.invokevirtual idx, 3)) : m_Snd D cA ra B ro M cc nL ret own nm pc (m_cob z n ci) := by
  refine ⟨⟨fun ls st h pc1 ls1 st1 h1 e _ => (by obtain ⟨_, _, _, _, _, _, _, z⟩ := m_cob_spec e; cases z), fun ls st h v e => (by obtain ⟨_, _, _, _, _, _, _, z⟩ := m_cob_spec e; cases z)⟩, ?_⟩
  intro p l e R s m args below meth c d h0 Q X
  refine ⟨fun ls st h pc1 ls1 st1 h1 e => (by obtain ⟨_, _, _, _, _, _, _, z⟩ := m_cob_spec e; cases z), ?_, fun ls st h v e => (by obtain ⟨_, _, _, _, _, _, _, z⟩ := m_cob_spec e; cases z)⟩
  intro ls st h z2 as rest r1 h1 eq hm hmet hm0 hR kk
  obtain ⟨a, rest2, fs, g0, g1, g2, g3, g4⟩ := m_cob_spec eq
  cases g4
  have met := hmet _ hM
  refine m_call_go X hm hm0 hR met (fun H locs al hS hH hal hPc hroom => ?_) kk
  obtain ⟨hx, hb, hml, hr, hown, hlk2, hnm, hts, hW, hsz, hrl, hfr, hlo⟩ := X
  have hstk := m_st_cut2 (ra := ra) (B := B) g0
  have hln := m_drop_len g0
  have hlen : (((st.take n).reverse).map (m_cv ra B)).length = n := by rw [List.length_map, List.length_reverse, List.length_take]; omega
  have hrm : (m_rm d h h1).frames + 1 ≤ R.frames ∧ 8 + (k + 11) + (m_rm d h h1).locals ≤ R.locals := ⟨hfr, by show 8 + (k + 11) + (41 * d + 40) ≤ R.locals; omega⟩
  have hrecv := va_recv hW.1 hH.1 hc (m_ws_get (cA := cA) (ra := ra) (B := B) g1 g2)
  rcases hlk with hl | ⟨host, hl⟩
  · exact va_runV (n := n) (nL := nL) (C := y.cls) (b := m_ad ra B a) ⟨hx, hb, hml, hown, hts⟩ met ⟨callB_of n hts (m_gi hcd) rfl rfl rfl (hts _ hin) (hts _ hl) hd hrm, hts _ him, hts _ hsl⟩ ⟨m_Pc_blind, hrecv, hPc⟩ rfl hlen hal hstk (lv_room (by rw [m_cs_cv]; exact g3)) hdg hroom
  · exact va_runVN (n := n) (nL := nL) (host := host) (C := y.cls) (b := m_ad ra B a) ⟨hx, hb, hml, hown, hts⟩ met ⟨va_cnB n hts (m_gi hcd) rfl rfl rfl (hW.2.2.2.2.2.1 _ hl) (hts _ hin) hd hrm, hts _ him, hts _ hsl⟩ ⟨m_Pc_blind, hrecv, hPc⟩ rfl hlen hal hstk (lv_room (by rw [m_cs_cv]; exact g3)) hdg hroom
/-- a constructor's call -/
theorem m_s_cin {z n idx ci N : Nat} {T : u_T} {y : MethodName} {b : ByteArray} {k : Nat} (hM : M[z]? = some (y, b, k, none)) (hc : vwCl[ci]? = some (y.cls, T, N)) (hk : k ≤ 22) (hy : y.name = "<init>") (hlk : Cond.methodLink own idx y ∈ m_gd ∨ ∃ host, Cond.methodLinkNest own idx y host ∈ m_nest) (him : Cond.instanceMethod y ∈ m_gd) (hin : Cond.initialized y.cls ∈ m_gd) (hcd : Cond.code y b k none ∈ m_gd)
    (hd : y.cls ≠ "java/lang/invoke/MethodHandle" ∧ y.cls ≠ "java/lang/invoke/VarHandle" ∧ (parseMethodDescriptor y.desc).map (fun d => d.parameters.length) = some n) (hdg : decode cc pc = .ok (.invokespecial idx, 3)) : m_Snd D cA ra B ro M cc nL ret own nm pc (m_cob z n ci) := by
  refine ⟨⟨fun ls st h pc1 ls1 st1 h1 e _ => (by obtain ⟨_, _, _, _, _, _, _, z⟩ := m_cob_spec e; cases z), fun ls st h v e => (by obtain ⟨_, _, _, _, _, _, _, z⟩ := m_cob_spec e; cases z)⟩, ?_⟩
  intro p l e R s m args below meth c d h0 Q X
  refine ⟨fun ls st h pc1 ls1 st1 h1 e => (by obtain ⟨_, _, _, _, _, _, _, z⟩ := m_cob_spec e; cases z), ?_, fun ls st h v e => (by obtain ⟨_, _, _, _, _, _, _, z⟩ := m_cob_spec e; cases z)⟩
  intro ls st h z2 as rest r1 h1 eq hm hmet hm0 hR kk
  obtain ⟨a, rest2, fs, g0, g1, g2, g3, g4⟩ := m_cob_spec eq
  cases g4
  have met := hmet _ hM
  refine m_call_go X hm hm0 hR met (fun H locs al hS hH hal hPc hroom => ?_) kk
  obtain ⟨hx, hb, hml, hr, hown, hlk2, hnm, hts, hW, hsz, hrl, hfr, hlo⟩ := X
  have hstk := m_st_cut2 (ra := ra) (B := B) g0
  have hln := m_drop_len g0
  have hlen : (((st.take n).reverse).map (m_cv ra B)).length = n := by rw [List.length_map, List.length_reverse, List.length_take]; omega
  have hrm : (m_rm d h h1).frames + 1 ≤ R.frames ∧ 8 + (k + 11) + (m_rm d h h1).locals ≤ R.locals := ⟨hfr, by show 8 + (k + 11) + (41 * d + 40) ≤ R.locals; omega⟩
  rcases hlk with hl | ⟨host, hl⟩
  · exact va_runI (n := n) (nL := nL) (b := m_ad ra B a) ⟨hx, hb, hml, hown, hts⟩ met ⟨callB_of n hts (m_gi hcd) rfl rfl rfl (hts _ hin) (hts _ hl) hd hrm, hy, hts _ him⟩ ⟨m_Pc_blind, hPc⟩ rfl hlen hal hstk (lv_room (by rw [m_cs_cv]; exact g3)) hdg hroom
  · exact va_runIN (n := n) (nL := nL) (host := host) (b := m_ad ra B a) ⟨hx, hb, hml, hown, hts⟩ met ⟨va_cnB n hts (m_gi hcd) rfl rfl rfl (hW.2.2.2.2.2.1 _ hl) (hts _ hin) hd hrm, hy, hts _ him⟩ ⟨m_Pc_blind, hPc⟩ rfl hlen hal hstk (lv_room (by rw [m_cs_cv]; exact g3)) hdg hroom
end
