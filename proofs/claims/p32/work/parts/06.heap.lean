/-! instructions that read and write cells, make them, call and return -/
theorem m_Wsize {p : Program} {l : Launch} {e : Env} {R : Room} {s : State} {m : MethodId} {args : Array Value} {below : List Frame} {meth : Method} {c : Code} {H : Heap} {locs : List Loc} {cells slots : Nat} {Q : State → Prop} {g : JFrame} (k : H.size ≤ s.heap.size + cells → W p l e R s m args below meth c H locs cells slots Q g) : W p l e R s m args below meth c H locs cells slots Q g := fun T hT X => k (by rw [← hT]; exact X.heapSize) T hT X
theorem m_S2 {A : Nat → Prop} {H0 H H1 : Heap} {locs locs1 : List Loc} (h : va_S A H0 H locs) (h1 : va_S A H H1 locs1) : va_S A H0 H1 locs1 := ⟨Nat.le_trans h.1 h1.1, fun q g1 g2 => (h1.2.1 q (Nat.lt_of_lt_of_le g1 h.1) g2).trans (h.2.1 q g1 g2), h1.2.2⟩
theorem m_S0 {A : Nat → Prop} {H0 H : Heap} {locs : List Loc} (h : va_S A H0 H locs) : va_S A H H locs := ⟨Nat.le_refl _, fun _ _ _ => rfl, h.2.2⟩
theorem m_Rd.ro {ro : List (List Int32)} {h : m_Hp} {a : Nat} {x : m_Cel} (hro : m_Rd ro h) (ha : a < 4) (hx : h[a]? = some x) : ∃ xs, ro[a]? = some xs ∧ x = .inl (0, xs) := by
  have h1 : (h.take 4)[a]? = some x := by rw [List.getElem?_take_of_lt ha]; exact hx
  rw [hro, List.getElem?_map] at h1
  cases hr : ro[a]? with
  | none => rw [hr] at h1; cases h1
  | some xs => rw [hr] at h1; cases h1; exact ⟨xs, rfl, rfl⟩
theorem m_Rd.mono {ro : List (List Int32)} {h h1 : m_Hp} (hm : m_mono h h1) (hro : m_Rd ro h) : m_Rd ro h1 := hm.2.2.trans hro
section
variable {D : va_G} {cA : Nat → ClassId} {ra : Nat → Nat} {B : Nat} {ro : List (List Int32)} {M : List m_Mt} {cc : ByteArray} {nL : Nat} {ret : Option FieldType} {own nm : String} {pc : Nat} {o : m_Op}
theorem m_ad4 {a : Nat} (h : a < 4) : m_ad ra B a = ra a := if_pos h
/-- an instruction that goes on, and may move the heap -/
theorem m_heap (hn : ∀ (ls : m_Ls) (st : List Value) (h : m_Hp) (x : m_Res), o pc ls st h = some x → ∃ y, x = .inl y)
    (hm : ∀ (ls : m_Ls) (st : List Value) (h : m_Hp) (pc1 : Nat) (ls1 : m_Ls) (st1 : List Value) (h1 : m_Hp), o pc ls st h = some (.inl (pc1, ls1, st1, h1)) → 4 ≤ h.length → m_mono h h1)
    (hz : ∀ (p : Program) (l : Launch) (e : Env) (R : Room) (s : State) (m : MethodId) (args : Array Value) (below : List Frame) (meth : Method) (c : Code) (d : Nat) (h0 : m_Hp) (Q : State → Prop), m_Cx D cA ra B ro p R s m args meth c cc nL ret own nm d h0 →
      ∀ (ls : m_Ls) (st : List Value) (h : m_Hp) (pc1 : Nat) (ls1 : m_Ls) (st1 : List Value) (h1 : m_Hp), o pc ls st h = some (.inl (pc1, ls1, st1, h1)) → 4 ≤ h.length → m_mono h h1 → m_mono h0 h → m_Rm R h0 h1 → ∀ (H : Heap) (locs : List Loc) (al : Array Slot), va_S (m_A B) s.heap H locs → m_Hd D cA ra B h H → m_Rd ro h → m_Lv ra B al nL ls → H.size + 4 = B + h.length →
        (∀ (H1 : Heap) (locs1 : List Loc), va_S (m_A B) s.heap H1 locs1 → m_Hd D cA ra B h1 H1 → ∀ al1, m_Lv ra B al1 nL ls1 → W p l e R s m args below meth c H1 locs1 (h1.length - h0.length) (m_sz h1 - m_sz h0) Q (F0 m pc1 al1 (st1.map (m_cv ra B)))) → W p l e R s m args below meth c H locs (h.length - h0.length) (m_sz h - m_sz h0) Q (F0 m pc al (st.map (m_cv ra B)))) : m_Snd D cA ra B ro M cc nL ret own nm pc o := by
  refine ⟨⟨hm, fun ls st h v eq => ?_⟩, ?_⟩
  · obtain ⟨y, q⟩ := hn ls st h _ eq
    cases q
  intro p l e R s m args below meth c d h0 Q X
  refine ⟨fun ls st h pc1 ls1 st1 h1 eq h4 => ?_, fun ls st h z as rest r1 h1 eq => ?_, fun ls st h v eq => ?_⟩
  · have hmm := hm ls st h pc1 ls1 st1 h1 eq h4
    intro hm0 hR k H locs al hS hH hro hL
    refine m_Wsize fun hup => ?_
    have hsz := X.2.2.2.2.2.2.2.2.2.1
    have h5 := hm0.1
    have h6 := hH.2
    exact hz p l e R s m args below meth c d h0 Q X ls st h pc1 ls1 st1 h1 eq h4 hmm hm0 hR H locs al hS hH hro hL (by omega) (fun H1 locs1 hS1 hH1 al1 hL1 => k H1 locs1 al1 hS1 hH1 (hro.mono hmm) hL1)
  · obtain ⟨y, q⟩ := hn ls st h _ eq
    cases q
  · obtain ⟨y, q⟩ := hn ls st h _ eq
    cases q
theorem m_bif {c : Bool} {x y : m_Res} (h : (bif c then some x else none) = some y) : c = true ∧ y = x := by
  cases c with
  | false => cases h
  | true => cases h; exact ⟨rfl, rfl⟩
theorem m_beq {a b : Nat} (h : Nat.beq a b = true) : a = b := Nat.eq_of_beq_eq_true h
theorem m_blt {a b : Nat} (h : Nat.blt a b = true) : a < b := by rw [Nat.blt_eq] at h; exact h
theorem m_s_get {ci k N idx : Nat} {C : String} {T : u_T} (hc : vwCl[ci]? = some (C, T, N)) (hk : k < N) (hin : ∀ w ∈ u_ws C T N, w ∈ m_gd) (hC : (T k).1 = C) (hw : Cond.fieldLink own idx C (T k).2.1 (T k).2.2.1 ∈ m_gd) (hdg : decode cc pc = .ok (.getfield idx, 3)) : m_Snd D cA ra B ro M cc nL ret own nm pc (m_get ci k) := by
  refine m_pure (fun ls st h x e => ?_) ?_
  · unfold m_get at e
    (repeat' split at e) <;> first | (cases e; done) | (obtain ⟨_, rfl⟩ := m_bif e; exact ⟨_, _, _, rfl⟩)
  intro p l e R s m args below meth c d h0 Q X ls st h pc1 ls1 st1 eq H locs al cells slots hS hH hro hL hcl hsl kk
  obtain ⟨hx, hb, hml, hr, hown, hlk, hnm, hts, hW, hsz, hrl, hfr, hlo⟩ := X
  unfold m_get at eq
  split at eq
  · rename_i a st2
    split at eq
    · rename_i cj fs hh
      split at eq
      · rename_i v hv
        obtain ⟨hq, e3⟩ := m_bif eq
        cases e3
        rw [Bool.and_eq_true] at hq
        have e1 := m_beq hq.1
        subst e1
        have h3 := m_blt hq.2
        exact va_get (D := D) hx hb hts hin hown hW.1 hH.1 (a - 4) (m_ws_get hh h3) hc k hk (hts _ hw) (fun x hx => by rw [← hC]; exact hx) (v := m_cv ra B v) (by rw [List.getElem?_map, hv]; rfl) hdg (kk al hL)
      · cases eq
    · cases eq
  · cases eq
theorem m_put_spec {ci k ty : Nat} {ls : m_Ls} {st : List Value} {h : m_Hp} {x : m_Res} (e : m_put ci k ty pc ls st h = some x) : ∃ v a st2 fs, st = v :: .ref a :: st2 ∧ h[a]? = some (.inr (.inl (ci, fs))) ∧ 3 < a ∧ m_fit ty v = true ∧ k < fs.length ∧ x = .inl (pc + 3, ls, st2, h.set a (.inr (.inl (ci, fs.set k v)))) := by
  unfold m_put at e
  split at e
  · rename_i v a st2
    split at e
    · rename_i cj fs hh
      obtain ⟨hq, e3⟩ := m_bif e
      rw [Bool.and_eq_true, Bool.and_eq_true, Bool.and_eq_true] at hq
      obtain ⟨⟨⟨q1, q2⟩, q3⟩, q4⟩ := hq
      have e1 := m_beq q1
      subst e1
      exact ⟨v, a, st2, fs, rfl, hh, m_blt q2, q3, m_blt q4, e3⟩
    · cases e
  · cases e
theorem m_put_n {ci k ty : Nat} (ls : m_Ls) (st : List Value) (h : m_Hp) (x : m_Res) (e : m_put ci k ty pc ls st h = some x) : ∃ y, x = .inl y := by
  obtain ⟨v, a, st2, fs, -, -, -, -, -, q⟩ := m_put_spec e
  exact ⟨_, q⟩
theorem m_put_m {ci k ty : Nat} (ls : m_Ls) (st : List Value) (h : m_Hp) (pc1 : Nat) (ls1 : m_Ls) (st1 : List Value) (h1 : m_Hp) (e : m_put ci k ty pc ls st h = some (.inl (pc1, ls1, st1, h1))) (_ : 4 ≤ h.length) : m_mono h h1 := by
  obtain ⟨v, a, st2, fs, -, hh, h3, -, -, q⟩ := m_put_spec e
  cases q
  exact m_mono.set hh h3 (by simp [m_csz])
/-- what fits a field -/
def m_ft (ty : Nat) (f : FieldType) : Prop := ∀ (ra : Nat → Nat) (B : Nat) (v : Value), m_fit ty v = true → narrow f (m_cv ra B v) = m_cv ra B v ∧ fits f (m_cv ra B v) = true
theorem m_ft0 : m_ft 0 .int := fun ra B v h => by cases v <;> first | (cases h; done) | exact ⟨rfl, rfl⟩
theorem m_ft1o (n : String) : m_ft 1 (.object n) := fun ra B v h => by cases v <;> first | (cases h; done) | exact ⟨rfl, rfl⟩
theorem m_ft1a (t : FieldType) : m_ft 1 (.array t) := fun ra B v h => by cases v <;> first | (cases h; done) | exact ⟨rfl, rfl⟩
theorem m_ft2 : m_ft 2 .boolean := fun ra B v h => by
  cases v with
  | int x =>
    have h1 : x = 0 ∨ x = 1 := by simpa [m_fit] using h
    rcases h1 with rfl | rfl
    · exact ⟨(by decide : narrow .boolean (.int 0) = .int 0), (by decide : fits .boolean (.int 0) = true)⟩
    · exact ⟨(by decide : narrow .boolean (.int 1) = .int 1), (by decide : fits .boolean (.int 1) = true)⟩
  | _ => cases h
theorem m_ce_o {ci k : Nat} {fs : List Value} {v : Value} : m_ce cA ra B (.inr (.inl (ci, fs.set k v))) = .inr (ci, (fs.map (m_cv ra B)).set k (m_cv ra B v)) := by
  show Sum.inr (ci, (fs.set k v).map (m_cv ra B)) = _
  rw [List.map_set]
theorem m_Hd_set {h : m_Hp} {a : Nat} {x : m_Cel} {E : va_E} {H H1 : Heap} (h3 : 3 < a) (hE : m_ce cA ra B x = E) (hP : va_P D vwCl ((m_ws cA ra B h).set (a - 4) (m_ad ra B a, E)) H1) (hz : H.size ≤ H1.size) (hH : m_Hd D cA ra B h H) : m_Hd D cA ra B (h.set a x) H1 := by
  subst hE
  rw [m_ws_set h3] at hP
  refine ⟨hP, ?_⟩
  have h1 := hH.2
  rw [List.length_set]
  omega
theorem m_len_set {h h0 : m_Hp} {a : Nat} {x : m_Cel} : (h.set a x).length - h0.length = h.length - h0.length := by rw [List.length_set]
theorem m_s_put {ci k N idx ty : Nat} {C : String} {T : u_T} {ty0 : Nat → FieldType} {f : FieldType} (hc : vwCl[ci]? = some (C, T, N)) (hk : k < N) (hin : ∀ w ∈ u_ws C T N, w ∈ m_gd) (hty : ∀ k, k < N → parseFieldDescriptor (T k).2.2.1 = some (ty0 k)) (hnm : ∀ a, a < N → ∀ b, b < N → a ≠ b → (T a).2.1 ≠ (T b).2.1) (hC : (T k).1 = C) (hfin : (T k).2.2.2 = false) (hf : ty0 k = f) (hft : m_ft ty f) (hw : Cond.fieldLink own idx C (T k).2.1 (T k).2.2.1 ∈ m_gd) (hdg : decode cc pc = .ok (.putfield idx, 3)) : m_Snd D cA ra B ro M cc nL ret own nm pc (m_put ci k ty) := by
  refine m_heap m_put_n m_put_m ?_
  intro p l e R s m args below meth c d h0 Q X ls st h pc1 ls1 st1 h1 eq h4 hmm hm0 hR H locs al hS hH hro hL hex kk
  obtain ⟨hx, hb, hml, hr, hown, hlk, hnm2, hts, hW, hsz, hrl, hfr, hlo⟩ := X
  obtain ⟨v, a, st2, fs, rfl, hh, h3, q3, q4, q5⟩ := m_put_spec eq
  cases q5
  subst hf
  refine va_put (D := D) (H0 := H) (A := m_A B) hx hb hts hin ty0 hty hnm hown hW.1 hH.1 m_wsD (m_S0 hS) (a - 4) (m_ws_get hh h3) hc k hk (hts _ hw) (fun x hx => by rw [← hC]; exact hx) hfin (hty k hk) (hft ra B v q3).1 (hft ra B v q3).2 (by rw [List.length_map]; exact q4) hdg (fun H1 locs1 hP1 hD1 hS1 => ?_)
  have k1 := kk H1 locs1 (m_S2 hS hS1) (m_Hd_set h3 m_ce_o hP1 hS1.1 hH) al hL
  rw [m_len_set, m_sz_set hh (by simp [m_csz])] at k1
  exact k1
theorem m_s_putF {ci k N idx ty : Nat} {C : String} {T : u_T} {ty0 : Nat → FieldType} {f : FieldType} (hc : vwCl[ci]? = some (C, T, N)) (hk : k < N) (hin : ∀ w ∈ u_ws C T N, w ∈ m_gd) (hty : ∀ k, k < N → parseFieldDescriptor (T k).2.2.1 = some (ty0 k)) (hnm : ∀ a, a < N → ∀ b, b < N → a ≠ b → (T a).2.1 ≠ (T b).2.1) (hC : (T k).1 = C) (hfin : (T k).2.2.2 = true) (hi : nm = "<init>") (ho : (T k).1 = own) (hf : ty0 k = f) (hft : m_ft ty f) (hw : Cond.fieldLink own idx C (T k).2.1 (T k).2.2.1 ∈ m_gd) (hdg : decode cc pc = .ok (.putfield idx, 3)) : m_Snd D cA ra B ro M cc nL ret own nm pc (m_put ci k ty) := by
  refine m_heap m_put_n m_put_m ?_
  intro p l e R s m args below meth c d h0 Q X ls st h pc1 ls1 st1 h1 eq h4 hmm hm0 hR H locs al hS hH hro hL hex kk
  obtain ⟨hx, hb, hml, hr, hown, hlk, hnm2, hts, hW, hsz, hrl, hfr, hlo⟩ := X
  obtain ⟨v, a, st2, fs, rfl, hh, h3, q3, q4, q5⟩ := m_put_spec eq
  cases q5
  subst hf
  refine va_putF (D := D) (H0 := H) (A := m_A B) hx hb hts hin ty0 hty hnm hown hW.1 hH.1 m_wsD (m_S0 hS) (a - 4) (m_ws_get hh h3) hc k hk (hts _ hw) (fun x hx => by rw [← hC]; exact hx) hfin (by rw [hnm2, hi]) ho (hty k hk) (hft ra B v q3).1 (hft ra B v q3).2 (by rw [List.length_map]; exact q4) hdg (fun H1 locs1 hP1 hD1 hS1 => ?_)
  have k1 := kk H1 locs1 (m_S2 hS hS1) (m_Hd_set h3 m_ce_o hP1 hS1.1 hH) al hL
  rw [m_len_set, m_sz_set hh (by simp [m_csz])] at k1
  exact k1
theorem m_s_gets {idx j : Nat} {n : String} (hj : (n = "FIRST_OF_SETTING" ∧ j = 0) ∨ (n = "LEAST_OF_SETTING" ∧ j = 1) ∨ (n = "MOST_OF_SETTING" ∧ j = 2)) (hw : Cond.fieldLink own idx "CardSheets" n "[I" ∈ m_gd) (hdg : decode cc pc = .ok (.getstatic idx, 3)) : m_Snd D cA ra B ro M cc nL ret own nm pc (m_gets j) := by
  refine m_pure (fun ls st h x e => by cases e; exact ⟨_, _, _, rfl⟩) ?_
  intro p l e R s m args below meth c d h0 Q X ls st h pc1 ls1 st1 eq H locs al cells slots hS hH hro hL hcl hsl kk
  obtain ⟨hx, hb, hml, hr, hown, hlk, hnm, hts, hW, hsz, hrl, hfr, hlo⟩ := X
  cases eq
  rcases hj with ⟨rfl, rfl⟩ | ⟨rfl, rfl⟩ | ⟨rfl, rfl⟩
  · exact va_gets hx hb hW.2.2.1 hS hown (hts _ hw) (fun _ h9 => h9) hdg (kk al hL)
  · exact va_gets hx hb hW.2.2.2.1 hS hown (hts _ hw) (fun _ h9 => h9) hdg (kk al hL)
  · exact va_gets hx hb hW.2.2.2.2.1 hS hown (hts _ hw) (fun _ h9 => h9) hdg (kk al hL)
theorem m_s_getsN {idx : Nat} (hw : Cond.fieldLinkNest own idx "CardSheets" "FIRST_OF_SETTING" "[I" "CardSheets" ∈ m_nest) (hdg : decode cc pc = .ok (.getstatic idx, 3)) : m_Snd D cA ra B ro M cc nL ret own nm pc (m_gets 0) := by
  refine m_pure (fun ls st h x e => by cases e; exact ⟨_, _, _, rfl⟩) ?_
  intro p l e R s m args below meth c d h0 Q X ls st h pc1 ls1 st1 eq H locs al cells slots hS hH hro hL hcl hsl kk
  obtain ⟨hx, hb, hml, hr, hown, hlk, hnm, hts, hW, hsz, hrl, hfr, hlo⟩ := X
  cases eq
  exact va_getsN hx hb hW.2.2.1 hS hown (va_Nw.use rfl (hW.2.2.2.2.2.1 _ hw)) (fun _ h9 => h9) hdg (kk al hL)
theorem m_ty0 : (m_tys cA)[0]? = some (cA 0, .int) := rfl
theorem m_ty1 : (m_tys cA)[1]? = some (cA 1, .char) := rfl
theorem m_ty2 : (m_tys cA)[2]? = some (cA 2, .object RX2) := rfl
theorem m_ty3 : (m_tys cA)[3]? = some (cA 3, .object RX3) := rfl
theorem m_tyx {t : Nat} (h : t < 4) : ∃ f, (m_tys cA)[t]? = some (cA t, f) := by
  match t, h with
  | 0, _ => exact ⟨_, rfl⟩
  | 1, _ => exact ⟨_, rfl⟩
  | 2, _ => exact ⟨_, rfl⟩
  | 3, _ => exact ⟨_, rfl⟩
theorem m_s_ild {t : Nat} (ht : (t = 0 ∧ decode cc pc = .ok (.iaload, 1)) ∨ (t = 1 ∧ decode cc pc = .ok (.caload, 1))) : m_Snd D cA ra B ro M cc nL ret own nm pc (m_ild t) := by
  refine m_pure (fun ls st h x e => ?_) ?_
  · unfold m_ild at e
    (repeat' split at e) <;> first | (cases e; done) | (obtain ⟨_, rfl⟩ := m_bif e; exact ⟨_, _, _, rfl⟩)
  intro p l e R s m args below meth c d h0 Q X ls st h pc1 ls1 st1 eq H locs al cells slots hS hH hro hL hcl hsl kk
  obtain ⟨hx, hb, hml, hr, hown, hlk, hnm, hts, hW, hsz, hrl, hfr, hlo⟩ := X
  unfold m_ild at eq
  split at eq
  · rename_i i a st2
    split at eq
    · rename_i u xs hh
      split at eq
      · cases eq
      · rename_i hin
        obtain ⟨hq, e3⟩ := m_bif eq
        cases e3
        rw [Bool.and_eq_true, Bool.or_eq_true] at hq
        have e1 := m_beq hq.1
        subst e1
        by_cases h3 : 3 < a
        · rcases ht with ⟨rfl, hdg⟩ | ⟨rfl, hdg⟩
          · exact va_iald (D := D) hx hb hW.1 hH.1 (a - 4) 0 (m_ws_get hh h3) m_ty0 hin hdg (kk al hL)
          · exact va_cald (D := D) hx hb hW.1 hH.1 (a - 4) 1 (m_ws_get hh h3) m_ty1 hin hdg (kk al hL)
        · have ha : a < 4 := Nat.lt_succ_of_le (Nat.le_of_not_lt h3)
          obtain ⟨ys, g1, g2⟩ := hro.ro ha hh
          cases g2
          rcases ht with ⟨_, hdg⟩ | ⟨z, _⟩
          · have k1 := kk al hL
            show W p l e R s m args below meth c H locs cells slots Q (F0 m pc al (.int i :: .ref (m_ad ra B a) :: st2.map (m_cv ra B)))
            rw [m_ad4 ha]
            exact va_ti (v := .int (xs.getD i.toNatClampNeg 0)) hx hb (hW.2.1 a xs g1) hS hin rfl hdg k1
          · cases z
    · cases eq
  · cases eq
theorem m_s_len (hdg : decode cc pc = .ok (.arraylength, 1)) : m_Snd D cA ra B ro M cc nL ret own nm pc m_len := by
  refine m_pure (fun ls st h x e => ?_) ?_
  · unfold m_len at e
    (repeat' split at e) <;> first | (cases e; done) | (obtain ⟨_, rfl⟩ := m_bif e; exact ⟨_, _, _, rfl⟩)
  intro p l e R s m args below meth c d h0 Q X ls st h pc1 ls1 st1 eq H locs al cells slots hS hH hro hL hcl hsl kk
  obtain ⟨hx, hb, hml, hr, hown, hlk, hnm, hts, hW, hsz, hrl, hfr, hlo⟩ := X
  unfold m_len at eq
  split at eq
  · rename_i a st2
    split at eq
    · rename_i u xs hh
      obtain ⟨hq, e3⟩ := m_bif eq
      cases e3
      by_cases h3 : 3 < a
      · obtain ⟨f, hf⟩ := m_tyx (cA := cA) (m_blt hq)
        exact va_alen (D := D) hx hb hW.1 hH.1 (a - 4) u (m_ws_get hh h3) hf rfl hdg (kk al hL)
      · have ha : a < 4 := Nat.lt_succ_of_le (Nat.le_of_not_lt h3)
        obtain ⟨ys, g1, g2⟩ := hro.ro ha hh
        cases g2
        have k1 := kk al hL
        show W p l e R s m args below meth c H locs cells slots Q (F0 m pc al (.ref (m_ad ra B a) :: st2.map (m_cv ra B)))
        rw [m_ad4 ha]
        exact va_tlen hx hb (hW.2.1 a xs g1) hS rfl hdg k1
    · rename_i u rs hh
      obtain ⟨hq, e3⟩ := m_bif eq
      cases e3
      rw [Bool.and_eq_true] at hq
      obtain ⟨f, hf⟩ := m_tyx (cA := cA) (m_blt hq.1)
      exact va_alen (D := D) hx hb hW.1 hH.1 (a - 4) u (m_ws_get hh (m_blt hq.2)) hf rfl hdg (kk al hL)
    · cases eq
  · cases eq
theorem m_getD_set {α : Type} {xs : List α} {i : Nat} (hi : i < xs.length) (x d : α) (j : Nat) : (xs.set i x).getD j d = if j = i then x else xs.getD j d := by
  rw [List.getD_eq_getElem?_getD, List.getD_eq_getElem?_getD]
  by_cases h : j = i
  · subst h
    rw [if_pos rfl, List.getElem?_set_self hi]; rfl
  · rw [if_neg h, List.getElem?_set_ne (Ne.symm h)]
theorem m_ce_i {t i : Nat} {xs : List Int32} (hi : i < xs.length) (x : Int32) : m_ce cA ra B (.inl (t, xs.set i x)) = .inl (cA t, xs.length, .inl (upd (fun j => xs.getD j 0) i x)) := by
  show Sum.inl (cA t, (xs.set i x).length, Sum.inl (fun j => (xs.set i x).getD j 0)) = _
  rw [List.length_set]
  congr 3
  exact congrArg Sum.inl (funext fun j => m_getD_set hi x 0 j)
theorem m_ist_spec {t : Nat} {f : Int32 → Int32} {ls : m_Ls} {st : List Value} {h : m_Hp} {x : m_Res} (e : m_ist t f pc ls st h = some x) : ∃ (v i : Int32) (a : Nat) (st2 : List Value) (xs : List Int32), st = .int v :: .int i :: .ref a :: st2 ∧ h[a]? = some (.inl (t, xs)) ∧ ¬ (i < 0 ∨ xs.length ≤ i.toNatClampNeg) ∧ 3 < a ∧ x = .inl (pc + 1, ls, st2, h.set a (.inl (t, xs.set i.toNatClampNeg (f v)))) := by
  unfold m_ist at e
  split at e
  · rename_i v i a st2
    split at e
    · rename_i u xs hh
      split at e
      · cases e
      · rename_i hin
        obtain ⟨hq, e3⟩ := m_bif e
        rw [Bool.and_eq_true] at hq
        have e1 := m_beq hq.1
        subst e1
        exact ⟨v, i, a, st2, xs, rfl, hh, hin, m_blt hq.2, e3⟩
    · cases e
  · cases e
theorem m_ist_n {t : Nat} {f : Int32 → Int32} (ls : m_Ls) (st : List Value) (h : m_Hp) (x : m_Res) (e : m_ist t f pc ls st h = some x) : ∃ y, x = .inl y := by
  obtain ⟨v, i, a, st2, xs, -, -, -, -, q⟩ := m_ist_spec e
  exact ⟨_, q⟩
theorem m_ist_m {t : Nat} {f : Int32 → Int32} (ls : m_Ls) (st : List Value) (h : m_Hp) (pc1 : Nat) (ls1 : m_Ls) (st1 : List Value) (h1 : m_Hp) (e : m_ist t f pc ls st h = some (.inl (pc1, ls1, st1, h1))) (_ : 4 ≤ h.length) : m_mono h h1 := by
  obtain ⟨v, i, a, st2, xs, -, hh, -, h3, q⟩ := m_ist_spec e
  cases q
  exact m_mono.set hh h3 (by simp [m_csz])
theorem m_s_iast (hdg : decode cc pc = .ok (.iastore, 1)) : m_Snd D cA ra B ro M cc nL ret own nm pc (m_ist 0 (fun x => x)) := by
  refine m_heap m_ist_n m_ist_m ?_
  intro p l e R s m args below meth c d h0 Q X ls st h pc1 ls1 st1 h1 eq h4 hmm hm0 hR H locs al hS hH hro hL hex kk
  obtain ⟨hx, hb, hml, hr, hown, hlk, hnm2, hts, hW, hsz, hrl, hfr, hlo⟩ := X
  obtain ⟨v, i, a, st2, xs, rfl, hh, hin, h3, q⟩ := m_ist_spec eq
  cases q
  have hi : i.toNatClampNeg < xs.length := Nat.not_le.mp fun z => hin (Or.inr z)
  refine va_iast (D := D) (H0 := H) (A := m_A B) hx hb hW.1 hH.1 m_wsD (m_S0 hS) (a - 4) 0 (m_ws_get hh h3) m_ty0 hin hdg (fun H1 locs1 hP1 hD1 hS1 => ?_)
  have k1 := kk H1 locs1 (m_S2 hS hS1) (m_Hd_set h3 (m_ce_i hi v) hP1 hS1.1 hH) al hL
  rw [m_len_set, m_sz_set hh (by simp [m_csz])] at k1
  exact k1
theorem m_s_cast (hdg : decode cc pc = .ok (.castore, 1)) : m_Snd D cA ra B ro M cc nL ret own nm pc (m_ist 1 (vp_nar .char)) := by
  refine m_heap m_ist_n m_ist_m ?_
  intro p l e R s m args below meth c d h0 Q X ls st h pc1 ls1 st1 h1 eq h4 hmm hm0 hR H locs al hS hH hro hL hex kk
  obtain ⟨hx, hb, hml, hr, hown, hlk, hnm2, hts, hW, hsz, hrl, hfr, hlo⟩ := X
  obtain ⟨v, i, a, st2, xs, rfl, hh, hin, h3, q⟩ := m_ist_spec eq
  cases q
  have hi : i.toNatClampNeg < xs.length := Nat.not_le.mp fun z => hin (Or.inr z)
  refine va_cast (D := D) (H0 := H) (A := m_A B) hx hb hW.1 hH.1 m_wsD (m_S0 hS) (a - 4) 1 (m_ws_get hh h3) m_ty1 hin hdg (fun H1 locs1 hP1 hD1 hS1 => ?_)
  have k1 := kk H1 locs1 (m_S2 hS hS1) (m_Hd_set h3 (m_ce_i hi (vp_nar .char v)) hP1 hS1.1 hH) al hL
  rw [m_len_set, m_sz_set hh (by simp [m_csz])] at k1
  exact k1
theorem m_cv_rf (r : Option Nat) : m_cv ra B (m_rf r) = va_rf (r.map (m_ad ra B)) := by cases r <;> rfl
theorem m_s_ald (hdg : decode cc pc = .ok (.aaload, 1)) : m_Snd D cA ra B ro M cc nL ret own nm pc m_ald := by
  refine m_pure (fun ls st h x e => ?_) ?_
  · unfold m_ald at e
    (repeat' split at e) <;> first | (cases e; done) | (obtain ⟨_, rfl⟩ := m_bif e; exact ⟨_, _, _, rfl⟩)
  intro p l e R s m args below meth c d h0 Q X ls st h pc1 ls1 st1 eq H locs al cells slots hS hH hro hL hcl hsl kk
  obtain ⟨hx, hb, hml, hr, hown, hlk, hnm, hts, hW, hsz, hrl, hfr, hlo⟩ := X
  unfold m_ald at eq
  split at eq
  · rename_i i a st2
    split at eq
    · rename_i u rs hh
      split at eq
      · cases eq
      · rename_i hin
        obtain ⟨hq, e3⟩ := m_bif eq
        cases e3
        rw [Bool.and_eq_true, Bool.or_eq_true] at hq
        have k1 := kk al hL
        rw [List.map_cons, m_cv_rf] at k1
        rcases hq.1 with hu | hu
        · have e1 := m_beq hu
          subst e1
          exact va_aldq (D := D) hx hb hW.1 hH.1 (a - 4) 2 (m_ws_get hh (m_blt hq.2)) m_ty2 hin hdg k1
        · have e1 := m_beq hu
          subst e1
          exact va_aldq (D := D) hx hb hW.1 hH.1 (a - 4) 3 (m_ws_get hh (m_blt hq.2)) m_ty3 hin hdg k1
    · cases eq
  · cases eq
theorem m_ce_q {t i : Nat} {rs : List (Option Nat)} (hi : i < rs.length) (x : Option Nat) : m_ce cA ra B (.inr (.inr (t, rs.set i x))) = .inl (cA t, rs.length, .inr (.inr (.inr (.inr (va_up (fun j => (rs.getD j none).map (m_ad ra B)) i (x.map (m_ad ra B))))))) := by
  show Sum.inl (cA t, (rs.set i x).length, Sum.inr (Sum.inr (Sum.inr (Sum.inr (fun j => ((rs.set i x).getD j none).map (m_ad ra B)))))) = _
  rw [List.length_set]
  congr 6
  apply congrArg Sum.inr
  funext j
  rw [m_getD_set hi x none j]
  unfold va_up
  by_cases h : j = i
  · rw [if_pos h, if_pos h]
  · rw [if_neg h, if_neg h]
theorem m_ast_spec {t ci : Nat} {ls : m_Ls} {st : List Value} {h : m_Hp} {x : m_Res} (e : m_ast t ci pc ls st h = some x) : ∃ (r : Option Nat) (i : Int32) (a : Nat) (st2 : List Value) (rs : List (Option Nat)), st = m_rf r :: .int i :: .ref a :: st2 ∧ h[a]? = some (.inr (.inr (t, rs))) ∧ ¬ (i < 0 ∨ rs.length ≤ i.toNatClampNeg) ∧ 3 < a ∧ (∀ b, r = some b → 3 < b ∧ ∃ fs, h[b]? = some (.inr (.inl (ci, fs)))) ∧ x = .inl (pc + 1, ls, st2, h.set a (.inr (.inr (t, rs.set i.toNatClampNeg r)))) := by
  unfold m_ast at e
  split at e
  · rename_i i a st2
    split at e
    · rename_i u rs hh
      split at e
      · cases e
      · rename_i hin
        obtain ⟨hq, e3⟩ := m_bif e
        rw [Bool.and_eq_true] at hq
        have e1 := m_beq hq.1
        subst e1
        exact ⟨none, i, a, st2, rs, rfl, hh, hin, m_blt hq.2, (fun b z => by cases z), e3⟩
    · cases e
  · rename_i b i a st2
    split at e
    · rename_i u rs hh
      split at e
      · rename_i cj fs hb
        split at e
        · cases e
        · rename_i hin
          obtain ⟨hq, e3⟩ := m_bif e
          rw [Bool.and_eq_true, Bool.and_eq_true, Bool.and_eq_true] at hq
          obtain ⟨⟨⟨q1, q2⟩, q3⟩, q4⟩ := hq
          have e1 := m_beq q1
          subst e1
          have e2 := m_beq q3
          subst e2
          exact ⟨some b, i, a, st2, rs, rfl, hh, hin, m_blt q2, (fun b2 z => by cases z; exact ⟨m_blt q4, fs, hb⟩), e3⟩
      · cases e
    · cases e
  · cases e
theorem m_s_ast {t ci : Nat} {q : vw_C} (hdg : decode cc pc = .ok (.aastore, 1)) (hc : vwCl[ci]? = some q) (ht : ∀ cA : Nat → ClassId, (m_tys cA)[t]? = some (cA t, .object q.1)) : m_Snd D cA ra B ro M cc nL ret own nm pc (m_ast t ci) := by
  refine m_heap (fun ls st h x e => ?_) (fun ls st h pc1 ls1 st1 h1 e _ => ?_) ?_
  · obtain ⟨r, i, a, st2, rs, -, -, -, -, -, z⟩ := m_ast_spec e
    exact ⟨_, z⟩
  · obtain ⟨r, i, a, st2, rs, -, hh, -, h3, -, z⟩ := m_ast_spec e
    cases z
    exact m_mono.set hh h3 (by simp [m_csz])
  intro p l e R s m args below meth c d h0 Q X ls st h pc1 ls1 st1 h1 eq h4 hmm hm0 hR H locs al hS hH hro hL hex kk
  obtain ⟨hx, hb, hml, hr, hown, hlk, hnm2, hts, hW, hsz, hrl, hfr, hlo⟩ := X
  obtain ⟨r, i, a, st2, rs, rfl, hh, hin, h3, hb3, z⟩ := m_ast_spec eq
  cases z
  have hi : i.toNatClampNeg < rs.length := Nat.not_le.mp fun z => hin (Or.inr z)
  cases r with
  | none =>
    refine va_astqN (D := D) (H0 := H) (A := m_A B) hx hb hW.1 hH.1 m_wsD (m_S0 hS) (a - 4) t (m_ws_get hh h3) (ht cA) hin hdg (fun H1 locs1 hP1 hD1 hS1 => ?_)
    have k1 := kk H1 locs1 (m_S2 hS hS1) (m_Hd_set h3 (m_ce_q hi none) hP1 hS1.1 hH) al hL
    rw [m_len_set, m_sz_set hh (by simp [m_csz])] at k1
    exact k1
  | some b =>
    obtain ⟨hb4, fs, hb5⟩ := hb3 b rfl
    refine va_astq (D := D) (H0 := H) (A := m_A B) hx hb hW.1 hH.1 m_wsD (m_S0 hS) (a - 4) t (b - 4) ci (m_ws_get hh h3) (ht cA) (m_ws_get hb5 hb4) hc hin hdg (fun H1 locs1 hP1 hD1 hS1 => ?_)
    have k1 := kk H1 locs1 (m_S2 hS hS1) (m_Hd_set h3 (m_ce_q hi (some b)) hP1 hS1.1 hH) al hL
    rw [m_len_set, m_sz_set hh (by simp [m_csz])] at k1
    exact k1
theorem m_cpy0 {xs ys : List Int32} {n : Nat} (h1 : n ≤ xs.length) (h2 : n ≤ ys.length) (j : Nat) : (xs.take n ++ ys.drop n).getD j 0 = va_cpy (fun j => xs.getD j 0) (fun j => ys.getD j 0) 0 0 n j := by
  unfold va_cpy
  simp only [List.getD_eq_getElem?_getD]
  by_cases h : j < n
  · rw [if_pos ⟨Nat.zero_le _, by omega⟩, List.getElem?_append_left (by rw [List.length_take]; omega), List.getElem?_take_of_lt h]
    simp
  · rw [if_neg (by omega), List.getElem?_append_right (by rw [List.length_take]; omega), List.getElem?_drop, List.length_take, show n + (j - min n xs.length) = j by omega]
end
