/-! cells that are made, natives, calls, returns -/
section
variable {D : va_G} {cA : Nat → ClassId} {ra : Nat → Nat} {B : Nat} {ro : List (List Int32)} {M : List m_Mt} {cc : ByteArray} {nL : Nat} {ret : Option FieldType} {own nm : String} {pc : Nat} {o : m_Op}
theorem m_ws_len {h : m_Hp} : (m_ws cA ra B h).length = h.length - 4 := by unfold m_ws; rw [List.length_mapIdx, List.length_drop]
/-- a new cell is the next one -/
theorem m_Hd_app {h : m_Hp} {x : m_Cel} {E : va_E} {H H1 : Heap} {q : Nat} (h4 : 4 ≤ h.length) (hE : m_ce cA ra B x = E) (hex : H.size + 4 = B + h.length) (hP : va_P D vwCl (m_ws cA ra B h ++ [(q, E)]) H1) (hD : va_D (m_A B) (m_ws cA ra B h ++ [(q, E)])) (hz0 : H.size ≤ H1.size) (hz : H1.size ≤ H.size + 1) : q = m_ad ra B h.length ∧ m_Hd D cA ra B (h ++ [x]) H1 := by
  subst hE
  have hlast : (m_ws cA ra B h ++ [(q, m_ce cA ra B x)])[h.length - 4]? = some (q, m_ce cA ra B x) := by
    rw [List.getElem?_append_right (by rw [m_ws_len]; exact Nat.le_refl _), m_ws_len]
    simp
  have h0 : B ≤ q := hD.2 _ _ hlast
  have h1 : H.size ≤ q := by
    rcases Nat.lt_or_ge q H.size with hlt | hge
    · exfalso
      have hk : q - B + 4 < h.length := by omega
      have hc : h[q - B + 4]? = some h[q - B + 4] := List.getElem?_eq_getElem hk
      have hw := m_ws_get (cA := cA) (ra := ra) (B := B) hc (by omega)
      have hw2 : (m_ws cA ra B h ++ [(q, m_ce cA ra B x)])[q - B + 4 - 4]? = some (m_ad ra B (q - B + 4), m_ce cA ra B h[q - B + 4]) := by
        rw [List.getElem?_append_left (by rw [m_ws_len]; omega)]
        exact hw
      have he := hD.1 _ _ _ _ hw2 hlast (by show m_ad ra B (q - B + 4) = q; unfold m_ad; rw [if_neg (by omega)]; omega)
      omega
    · exact hge
  have h2 : q < H1.size := (hP _ _ hlast).lt
  have e : q = m_ad ra B h.length := by
    unfold m_ad
    rw [if_neg (by omega)]
    omega
  refine ⟨e, ?_, ?_⟩
  · rw [m_ws_app h4, ← e]
    exact hP
  · rw [List.length_append]
    simp only [List.length_singleton]
    omega
theorem m_room1 {R : Room} {h h0 : m_Hp} {x : m_Cel} (hm0 : m_mono h0 h) (hR : m_Rm R h0 (h ++ [x])) : h.length - h0.length + 1 ≤ R.cells ∧ m_sz h - m_sz h0 + m_csz x ≤ R.slots ∧ (h ++ [x]).length - h0.length = h.length - h0.length + 1 ∧ m_sz (h ++ [x]) - m_sz h0 = m_sz h - m_sz h0 + m_csz x := by
  obtain ⟨h1, h2⟩ := hR
  have h3 := hm0.1
  have h4 := hm0.2.1
  rw [m_sz_app] at h2 ⊢
  rw [List.length_append, List.length_singleton] at h1 ⊢
  omega
theorem m_s_new {ci N idx : Nat} {C : String} {T : u_T} {ty0 : Nat → FieldType} {fs : List Value} (hc : vwCl[ci]? = some (C, T, N)) (hin : ∀ w ∈ u_ws C T N, w ∈ m_gd) (hty : ∀ k, k < N → parseFieldDescriptor (T k).2.2.1 = some (ty0 k)) (hfs : ∀ j, j < N → defaultValue (ty0 j) = vp_V fs j) (hN : fs.length = N) (hcv : ∀ (ra : Nat → Nat) (B : Nat), fs.map (m_cv ra B) = fs) (hw1 : Cond.classLink own idx C ∈ m_gd) (hw2 : Cond.instantiable C N ∈ m_gd) (hw3 : Cond.initialized C ∈ m_gd) (hdg : decode cc pc = .ok (.new idx, 3)) : m_Snd D cA ra B ro M cc nL ret own nm pc (m_new ci fs) := by
  refine m_heap (fun ls st h x e => by cases e; exact ⟨_, rfl⟩) (fun ls st h pc1 ls1 st1 h1 e h4 => by cases e; exact m_mono.app h4) ?_
  intro p l e R s m args below meth c d h0 Q X ls st h pc1 ls1 st1 h1 eq h4 hmm hm0 hR H locs al hS hH hro hL hex kk
  obtain ⟨hx, hb, hml, hr, hown, hlk, hnm2, hts, hW, hsz, hrl, hfr, hlo⟩ := X
  cases eq
  obtain ⟨r1, r2, r3, r4⟩ := m_room1 hm0 hR
  subst hN
  refine va_new (D := D) (H0 := H) (A := m_A B) hx hb hts hin ty0 hty hown (hts _ hw1) (hts _ hw2) (hts _ hw3) hW.1 hH.1 m_wsD (m_S0 hS) (fun q hq => Nat.le_trans hW.2.2.2.2.2.2.2.2 (Nat.le_trans hS.1 hq)) hc hfs r1 r2 hdg (fun q H1 hP1 hD1 hS1 => ?_)
  refine m_Wsize fun hup => ?_
  obtain ⟨q1, q2⟩ := m_Hd_app (D := D) (x := .inr (.inl (ci, fs))) h4 (by show Sum.inr (ci, fs.map (m_cv ra B)) = _; rw [hcv]) hex hP1 hD1 hS1.1 (by have := hm0.1; omega)
  have k1 := kk H1 locs (m_S2 hS hS1) q2 al hL
  rw [r3, r4] at k1
  rw [q1]
  exact k1
theorem m_num_spec {n : Int32} {x y : m_Res} (e : (if n < 0 ∨ 100000 < n.toNatClampNeg then none else some x) = some y) : ¬ n < 0 ∧ n.toNatClampNeg ≤ 100000 ∧ y = x := by
  split at e
  · cases e
  · rename_i hn
    cases e
    exact ⟨fun z => hn (Or.inl z), Nat.le_of_not_lt fun z => hn (Or.inr z), rfl⟩
theorem m_rep0 (N : Nat) (j : Nat) : (List.replicate N (0 : Int32)).getD j 0 = 0 := by
  rw [List.getD_eq_getElem?_getD, List.getElem?_replicate]
  split <;> rfl
theorem m_repn (N : Nat) (j : Nat) : (List.replicate N (none : Option Nat)).getD j none = none := by
  rw [List.getD_eq_getElem?_getD, List.getElem?_replicate]
  split <;> rfl
theorem m_s_nar {t : Nat} {atype : ArrayType} {f : FieldType} (hf : newarray.typeOf atype = f) (ht : ∀ cA : Nat → ClassId, (m_tys cA)[t]? = some (cA t, f)) (hdf : defaultValue f = .int 0) (hcb : componentBytes f ≤ 8) (hra : ∀ (U : State) (c1 c2 : ClassId), va_RA U c1 f → va_RA U c2 f → c1 = c2) (hw : Cond.arrayClass f ∈ m_gd) (hdg : decode cc pc = .ok (.newarray atype, 2)) : m_Snd D cA ra B ro M cc nL ret own nm pc (m_nar t) := by
  refine m_heap (fun ls st h x e => ?_) (fun ls st h pc1 ls1 st1 h1 e h4 => ?_) ?_
  · unfold m_nar at e
    split at e
    · obtain ⟨_, _, e3⟩ := m_num_spec e
      exact ⟨_, e3⟩
    · cases e
  · unfold m_nar at e
    split at e
    · obtain ⟨_, _, e3⟩ := m_num_spec e
      cases e3
      exact m_mono.app h4
    · cases e
  intro p l e R s m args below meth c d h0 Q X ls st h pc1 ls1 st1 h1 eq h4 hmm hm0 hR H locs al hS hH hro hL hex kk
  obtain ⟨hx, hb, hml, hr, hown, hlk, hnm2, hts, hW, hsz, hrl, hfr, hlo⟩ := X
  unfold m_nar at eq
  split at eq
  · rename_i n st2
    obtain ⟨hn, hn2, e3⟩ := m_num_spec eq
    cases e3
    obtain ⟨r1, r2, r3, r4⟩ := m_room1 hm0 hR
    have e5 : m_csz (.inl (t, List.replicate n.toNatClampNeg 0)) = n.toNatClampNeg := by simp [m_csz]
    rw [e5] at r2 r4
    subst hf
    refine va_newa (D := D) (H0 := H) (A := m_A B) (a0 := (n.toNatClampNeg, .inl (fun _ => 0))) hx hb (hts _ hw) rfl hW.1 hH.1 m_wsD (m_S0 hS) (fun q hq => Nat.le_trans hW.2.2.2.2.2.2.2.2 (Nat.le_trans hS.1 hq)) (fun cA2 => by rw [hdf]; rfl) hn rfl (Nat.le_trans (Nat.mul_le_mul hn2 hcb) (Nat.le_of_ble_eq_true rfl)) r1 r2 hdg (fun q cA2 H1 hK1 hP1 hD1 hS1 => ?_)
    refine m_Wsize fun hup => ?_
    have ec : cA2 = cA t := by
      have g1 := (hK1.2 4 (cA2, newarray.typeOf atype) rfl).2
      have g2 := (hW.1.2 t _ (ht cA)).2
      exact hra s _ _ g1 g2
    subst ec
    obtain ⟨q1, q2⟩ := m_Hd_app (D := D) (x := .inl (t, List.replicate n.toNatClampNeg 0)) h4 (by show Sum.inl (cA t, (List.replicate n.toNatClampNeg (0 : Int32)).length, Sum.inl (fun j => (List.replicate n.toNatClampNeg (0 : Int32)).getD j 0)) = _; rw [List.length_replicate]; congr 3; exact congrArg Sum.inl (funext fun j => m_rep0 _ j)) hex hP1 hD1 hS1.1 (by have := hm0.1; omega)
    have k1 := kk H1 locs (m_S2 hS hS1) q2 al hL
    rw [r3, r4] at k1
    rw [q1]
    exact k1
  · cases eq
theorem m_s_anar {t idx : Nat} {C : String} (ht : ∀ cA : Nat → ClassId, (m_tys cA)[t]? = some (cA t, .object C)) (hCC : C = RX2 ∨ C = RX3) (hw : Cond.classLink own idx C ∈ m_gd) (hdg : decode cc pc = .ok (.anewarray idx, 3)) : m_Snd D cA ra B ro M cc nL ret own nm pc (m_anar t) := by
  refine m_heap (fun ls st h x e => ?_) (fun ls st h pc1 ls1 st1 h1 e h4 => ?_) ?_
  · unfold m_anar at e
    split at e
    · obtain ⟨_, _, e3⟩ := m_num_spec e
      exact ⟨_, e3⟩
    · cases e
  · unfold m_anar at e
    split at e
    · obtain ⟨_, _, e3⟩ := m_num_spec e
      cases e3
      exact m_mono.app h4
    · cases e
  intro p l e R s m args below meth c d h0 Q X ls st h pc1 ls1 st1 h1 eq h4 hmm hm0 hR H locs al hS hH hro hL hex kk
  obtain ⟨hx, hb, hml, hr, hown, hlk, hnm2, hts, hW, hsz, hrl, hfr, hlo⟩ := X
  unfold m_anar at eq
  split at eq
  · rename_i n st2
    obtain ⟨hn, hn2, e3⟩ := m_num_spec eq
    cases e3
    obtain ⟨r1, r2, r3, r4⟩ := m_room1 hm0 hR
    have e5 : m_csz (.inr (.inr (t, List.replicate n.toNatClampNeg none))) = n.toNatClampNeg := by simp [m_csz]
    rw [e5] at r2 r4
    have hAO : va_AO C s := by
      rcases hCC with rfl | rfl
      · exact hW.2.2.2.2.2.2.1
      · exact hW.2.2.2.2.2.2.2.1
    refine va_newq (D := D) (H0 := H) (A := m_A B) hx hb hown (hts _ hw) hAO hW.1 hH.1 m_wsD (m_S0 hS) (fun q hq => Nat.le_trans hW.2.2.2.2.2.2.2.2 (Nat.le_trans hS.1 hq)) hn rfl (Nat.le_trans (Nat.mul_le_mul hn2 (Nat.le_refl 4)) (Nat.le_of_ble_eq_true rfl)) r1 r2 hdg (fun q cA2 H1 hK1 hP1 hD1 hS1 => ?_)
    refine m_Wsize fun hup => ?_
    have ec : cA2 = cA t := by
      obtain ⟨_, _, -, -, -, g1⟩ := (hK1.2 4 (cA2, .object C) rfl).2
      obtain ⟨_, _, -, -, -, g2⟩ := (hW.1.2 t _ (ht cA)).2
      exact Option.some.inj (g1.symm.trans g2)
    subst ec
    obtain ⟨q1, q2⟩ := m_Hd_app (D := D) (x := .inr (.inr (t, List.replicate n.toNatClampNeg none))) h4 (by show Sum.inl (cA t, (List.replicate n.toNatClampNeg (none : Option Nat)).length, Sum.inr (Sum.inr (Sum.inr (Sum.inr (fun j => ((List.replicate n.toNatClampNeg (none : Option Nat)).getD j none).map (m_ad ra B)))))) = _; rw [List.length_replicate]; congr 6; exact congrArg Sum.inr (funext fun j => by rw [m_repn]; rfl)) hex hP1 hD1 hS1.1 (by have := hm0.1; omega)
    have k1 := kk H1 locs (m_S2 hS hS1) q2 al hL
    rw [r3, r4] at k1
    rw [q1]
    exact k1
  · cases eq
theorem m_ble {a b : Nat} (h : Nat.ble a b = true) : a ≤ b := Nat.le_of_ble_eq_true h
theorem m_cs_cv (st : List Value) : ((st.map (m_cv ra B)).map fun v => v.category).sum = m_cs st := by
  unfold m_cs
  rw [List.map_map]
  congr 1
  exact List.map_congr_left fun v _ => m_cv_c1 v
theorem m_s_init0 {idx : Nat} (hw1 : Cond.methodLink own idx Lib.objectInit ∈ m_gd) (hw2 : Cond.instanceMethod Lib.objectInit ∈ m_gd) (hw3 : Cond.code Lib.objectInit ⟨#[0xb1]⟩ 1 none ∈ m_gd) (hdg : decode cc pc = .ok (.invokespecial idx, 3)) : m_Snd D cA ra B ro M cc nL ret own nm pc m_init0 := by
  refine m_pure (fun ls st h x e => ?_) ?_
  · unfold m_init0 at e
    split at e
    · obtain ⟨_, rfl⟩ := m_bif e; exact ⟨_, _, _, rfl⟩
    · cases e
  intro p l e R s m args below meth c d h0 Q X ls st h pc1 ls1 st1 eq H locs al cells slots hS hH hro hL hcl hsl kk
  obtain ⟨hx, hb, hml, hr, hown, hlk, hnm, hts, hW, hsz, hrl, hfr, hlo⟩ := X
  unfold m_init0 at eq
  split at eq
  · rename_i a st2
    obtain ⟨hq, e3⟩ := m_bif eq
    cases e3
    have h8 := m_ble hq
    exact W.objInit hx hb hown (hts _ hw1) (hts _ hw2) (hts _ hw3) rfl (hL.2.1.trans hml.symm) rfl hdg (by omega) (by show 2 * 0 + ((st1.map (m_cv ra B)).map fun v => v.category).sum + 12 ≤ R.locals; rw [m_cs_cv]; omega) (kk al hL)
  · cases eq
theorem m_s_min {idx : Nat} (hw1 : Cond.methodLink own idx Lib.Math.min.name ∈ m_gd) (hw2 : Cond.static Lib.Math.min.name ∈ m_gd) (hw3 : Cond.initialized "java/lang/Math" ∈ m_gd) (hw4 : Cond.code Lib.Math.min.name Lib.Math.min.code 2 (some .int) ∈ m_gd) (hdg : decode cc pc = .ok (.invokestatic idx, 3)) : m_Snd D cA ra B ro M cc nL ret own nm pc m_min := by
  refine m_pure (fun ls st h x e => ?_) ?_
  · unfold m_min at e
    split at e
    · obtain ⟨_, rfl⟩ := m_bif e; exact ⟨_, _, _, rfl⟩
    · cases e
  intro p l e R s m args below meth c d h0 Q X ls st h pc1 ls1 st1 eq H locs al cells slots hS hH hro hL hcl hsl kk
  obtain ⟨hx, hb, hml, hr, hown, hlk, hnm, hts, hW, hsz, hrl, hfr, hlo⟩ := X
  unfold m_min at eq
  split at eq
  · rename_i y x st2
    obtain ⟨hq, e3⟩ := m_bif eq
    cases e3
    have h8 := m_ble hq
    exact va_mmin hx hb (hml.trans hL.2.1.symm) hown (hts _ hw1) (hts _ hw2) (hts _ hw3) (hts _ hw4) (by omega) (by rw [m_cs_cv]; omega) hcl hsl hdg (kk al hL)
  · cases eq
theorem m_s_abs {idx : Nat} (hw1 : Cond.methodLink own idx Lib.Math.abs.name ∈ m_gd) (hw2 : Cond.static Lib.Math.abs.name ∈ m_gd) (hw3 : Cond.initialized "java/lang/Math" ∈ m_gd) (hw4 : Cond.code Lib.Math.abs.name Lib.Math.abs.code 1 (some .int) ∈ m_gd) (hdg : decode cc pc = .ok (.invokestatic idx, 3)) : m_Snd D cA ra B ro M cc nL ret own nm pc m_abs := by
  refine m_pure (fun ls st h x e => ?_) ?_
  · unfold m_abs at e
    split at e
    · obtain ⟨_, rfl⟩ := m_bif e; exact ⟨_, _, _, rfl⟩
    · cases e
  intro p l e R s m args below meth c d h0 Q X ls st h pc1 ls1 st1 eq H locs al cells slots hS hH hro hL hcl hsl kk
  obtain ⟨hx, hb, hml, hr, hown, hlk, hnm, hts, hW, hsz, hrl, hfr, hlo⟩ := X
  unfold m_abs at eq
  split at eq
  · rename_i x st2
    obtain ⟨hq, e3⟩ := m_bif eq
    cases e3
    have h8 := m_ble hq
    exact va_mabs hx hb (hml.trans hL.2.1.symm) hown (hts _ hw1) (hts _ hw2) (hts _ hw3) (hts _ hw4) (by omega) (by rw [m_cs_cv]; omega) hcl hsl hdg (kk al hL)
  · cases eq
end
